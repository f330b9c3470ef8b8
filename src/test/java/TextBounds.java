/** Each sentence on texts that names a boundary case, with a test of its own: the sentence is the test's name. */
public final class TextBounds {
    private static final int NONE = -1;
    private static final int BYTE = 0;
    private static final int NUMBER = 1;
    private static final int DEPTH = 2;
    private static final int PIECE = 3;
    private static final int CLAUSE = 4;

    /** The fault stands at the mark ^, which is no part of the text. */
    private static void saleFault(Bench t, String marked, int kind) {
        t.saleFault(marked.replace("^", ""), marked.indexOf('^'), kind);
    }

    private static void ruleFault(Bench t, String marked, int kind) {
        t.ruleFault(marked.replace("^", ""), marked.indexOf('^'), kind);
    }

    /** A rule that is taken; on an object of its own, since there are 6 at most. */
    private static void takes(String sentence, String rule) { new Bench(sentence).rule(rule, 0); }

    // ---- the tape -------------------------------------------------------------------------------------------------

    private static void twentyBytes() {
        Bench t = new Bench("twenty bytes come behind the TAPE, of each number the highest first");
        // Two calls: "sale 300;bidder 999 " and "300;lot;worth 0 0 7 ".
        t.due("first", t.sale.feed(0x73616c65, 0x20333030, 0x3b626964, 0x64657220, 0x39393920), 20);
        t.due("second", t.sale.feed(0x3330303b, 0x6c6f743b, 0x776f7274, 0x68203020, 0x30203720), 40);
        t.due("sale", t.sale.sale(), 1);
        t.due("longest", t.sale.count(0), 300);
        t.due("purse", t.sale.bidder(0, 0), 999);
        t.due("worth", t.sale.worth(0, 0), 7);
    }

    private static void bytesAboveOneHundredTwentySeven() {
        Bench t = new Bench("a byte that can't stand there");
        saleFault(t, "sale 9^\u00a0", BYTE);
        saleFault(t, "^\u00ff", BYTE);
        t.sale.end(0);
        t.sale.feed(-1, -1, -1, -1, -1);
        t.dueIdle("bytes 255", t.sale::sale, Bench.fault(0, BYTE));
        t.sale.end(0);
        t.sale.feed(Integer.MIN_VALUE, 0, 0, 0, 0);
        t.dueIdle("byte 128", t.sale::sale, Bench.fault(0, BYTE));
    }

    private static void feedMoreThanFourHundred() {
        Bench t = new Bench("NONE, and none comes, if it would have more than 400");
        for (int k = 1; k <= 20; k++) t.due("feed", t.sale.feed(k, k, k, k, k), 20 * k);
        t.dueIdle("full", () -> t.sale.feed(0, 0, 0, 0, 0), NONE);
        for (int n = 400; n > 380; n--) {
            t.due("end", t.sale.end(n), n);
            t.dueIdle("feed behind " + n, () -> t.sale.feed(0, 0, 0, 0, 0), NONE);
        }
        t.due("end", t.sale.end(380), 380);
        t.due("feed behind 380", t.sale.feed(0, 0, 0, 0, 0), 400);
    }

    private static void endHasNotSoMany() {
        Bench t = new Bench("the TAPE has its first n bytes alone; NONE if it has not so many, or n is below 0");
        t.dueIdle("0 of nothing", () -> t.sale.end(0), 0);
        for (int n : new int[] {1, -1, Integer.MAX_VALUE, Integer.MIN_VALUE}) t.dueIdle("of nothing", () -> t.sale.end(n), NONE);
        t.tape("sale 99;lot;lot;lot");
        t.dueIdle("as many", () -> t.sale.end(19), 19);
        for (int n : new int[] {20, -1, Integer.MAX_VALUE, Integer.MIN_VALUE}) t.dueIdle("not so many", () -> t.sale.end(n), NONE);
        t.due("fewer", t.sale.end(11), 11);
        t.dueIdle("they do not come back", () -> t.sale.end(19), NONE);
        t.due("the first", t.sale.sale(), 1);
        t.due("all gone", t.sale.count(14), 0);
    }

    private static void fourHundredBytes() {
        Bench t = new Bench("a text of at most 400 bytes");
        t.sale("sale 9;lot" + " ".repeat(390), 1).sale(" ".repeat(390) + "sale 9;lot", 1);
        saleFault(t, " ".repeat(391) + "sale 9;^lo", BYTE);
        saleFault(t, " ".repeat(394) + "sale ^0", NUMBER);
        saleFault(t, "sale 9" + " ".repeat(393) + ";^", BYTE);
        saleFault(t, " ".repeat(400) + "^", BYTE);
        t.rule("speak 1" + " ".repeat(393), 0).rule(" ".repeat(393) + "speak 1", 1);
        ruleFault(t, " ".repeat(393) + "speak ^x", BYTE);
        ruleFault(t, " ".repeat(395) + "speak^", BYTE);
        for (String last : new String[] {"<", "=", ">", "<=", ">=", "+", "%", "1"}) {
            ruleFault(t, " ".repeat(388 - last.length()) + "speak 1 if 1" + last + "^", BYTE);
        }
        ruleFault(t, " ".repeat(400) + "^", BYTE);
    }

    private static void emptyText() {
        Bench t = new Bench("0 the end (behind the last byte)");
        saleFault(t, "^", BYTE);
        saleFault(t, "      ^", BYTE);
        saleFault(t, "sale^", BYTE);
        saleFault(t, "sale   ^", BYTE);
        saleFault(t, "sale 9;^", BYTE);
        saleFault(t, "sale 9;  ^", BYTE);
        saleFault(t, "sale 9;bidder^", BYTE);
        saleFault(t, "sale 9;bidder 1 ^", BYTE);
        saleFault(t, "sale 9;trick 1^", BYTE);
        saleFault(t, "sale 9;bidder 0 1;lot;worth^", BYTE);
        saleFault(t, "sale 9;bidder 0 1;lot;worth 0^", BYTE);
        saleFault(t, "sale 9;bidder 0 1;lot;worth 0 0^", BYTE);
        for (String text : new String[] {"^", "  ^", "speak^", "speak ^", "speak 1;^", "speak 1+^", "speak 1-^", "speak 1*^", "speak 1/^",
            "speak 1% ^", "speak 1 if^", "speak 1 if not^", "speak 1 if [^", "speak 1 if 1^", "speak 1 if 1<^", "speak 1 if 1<=^",
            "speak 1 if 1=1 and^", "speak 1 if 1=1 or^", "speak 1 if [1=1^", "speak 1 if [1=1 or 1=1 ^"}) {
            ruleFault(t, text, BYTE);
        }
    }

    // ---- a sale ---------------------------------------------------------------------------------------------------

    private static void clausesOfASale() {
        Bench t = new Bench("CLAUSE { ; CLAUSE }, 40 at most");
        t.sale("sale 9", 0);
        // The shortest 40 would take 402 bytes, so that 39 are the most a tape can hold.
        String twelve = "sale9" + ";bidder0 1".repeat(5) + ";lot".repeat(3) + ";trick0 1".repeat(3);
        String all = twelve + ";worth0 0 1".repeat(26) + ";worth4 2 9";
        t.sale(all, 3);
        t.due("length", all.length(), 391);
        t.due("bidders", t.sale.count(1), 5);
        t.due("the last clause", t.sale.worth(4, 2), 9);
        saleFault(t, all + ";worth0 0^", BYTE);
        saleFault(t, all + ";^work 0 0", BYTE);
        saleFault(t, all + ";^lot", CLAUSE);
        saleFault(t, all + ";^", BYTE);
    }

    private static void longest() {
        Bench t = new Bench("LONGEST 1 to 300");
        for (String good : new String[] {"1", "00001", "300", "00300"}) {
            t.sale("sale " + good, 0);
            t.due("longest", t.sale.count(0), Integer.parseInt(good));
        }
        for (String bad : new String[] {"0", "00000", "301", "99999"}) saleFault(t, "sale ^" + bad, NUMBER);
        t.due("the last good one", t.sale.count(0), 300);
    }

    private static void firstClause() {
        Bench t = new Bench("once, the first CLAUSE: a second sale, another CLAUSE ahead of it");
        saleFault(t, "^bidder 0 1;sale 9", CLAUSE);
        saleFault(t, "^lot;sale 9", CLAUSE);
        saleFault(t, "  ^worth 0 0 0;sale 9", CLAUSE);
        saleFault(t, "^trick 0 1;sale 9", CLAUSE);
        saleFault(t, "^lot", CLAUSE);
        saleFault(t, "sale 9;^sale 9", CLAUSE);
        saleFault(t, "sale 9;lot; ^sale 9", CLAUSE);
        saleFault(t, "sale 9;^sale", CLAUSE);
        saleFault(t, "^speak 1", BYTE);
        saleFault(t, "^;sale 9", BYTE);
        saleFault(t, "^9", BYTE);
    }

    private static void purse() {
        Bench t = new Bench("PURSE 0 to 999");
        for (String good : new String[] {"0", "00000", "999", "00999"}) {
            t.sale("sale 9;bidder " + good + " 7", 0);
            t.due("purse", t.sale.bidder(0, 0), Integer.parseInt(good));
        }
        for (String bad : new String[] {"1000", "99999"}) saleFault(t, "sale 9;bidder ^" + bad + " 7", NUMBER);
        saleFault(t, "sale 9;bidder ^-1 7", BYTE);
    }

    private static void patience() {
        Bench t = new Bench("PATIENCE 1 to 300");
        for (String good : new String[] {"1", "00001", "300", "00300"}) {
            t.sale("sale 9;bidder 7 " + good, 0);
            t.due("patience", t.sale.bidder(0, 1), Integer.parseInt(good));
        }
        for (String bad : new String[] {"0", "00000", "301", "99999"}) saleFault(t, "sale 9;bidder 7 ^" + bad, NUMBER);
    }

    private static void worthOfThoseTold() {
        Bench t = new Bench("worth: a BIDDER, a LOT that were told");
        saleFault(t, "sale 9;worth ^0 0 0", NUMBER);
        saleFault(t, "sale 9;lot;worth ^0 0 0", NUMBER);
        saleFault(t, "sale 9;bidder 0 1;worth 0 ^0 0", NUMBER);
        saleFault(t, "sale 9;bidder 0 1;lot;worth ^1 0 0;bidder 0 1", NUMBER);
        saleFault(t, "sale 9;bidder 0 1;lot;worth 0 ^1 0;lot", NUMBER);
        String five = "sale 9" + ";bidder 0 1".repeat(5) + ";lot".repeat(3);
        t.sale(five + ";worth 4 2 6", 3);
        t.due("of the last two", t.sale.worth(4, 2), 6);
        saleFault(t, five + ";worth ^5 2 6", NUMBER);
        saleFault(t, five + ";worth 4 ^3 6", NUMBER);
        saleFault(t, five + ";worth ^99999 2 6", NUMBER);
    }

    private static void worthNumbers() {
        Bench t = new Bench("what it is WORTH to them, 0 to 300");
        for (String good : new String[] {"0", "00000", "300", "00300"}) {
            t.sale("sale 9;bidder 0 1;lot;worth 0 0 " + good, 1);
            t.due("worth", t.sale.worth(0, 0), Integer.parseInt(good));
        }
        for (String bad : new String[] {"301", "99999"}) saleFault(t, "sale 9;bidder 0 1;lot;worth 0 0 ^" + bad, NUMBER);
    }

    private static void worthToldTwice() {
        Bench t = new Bench("of the same two the last told, 0 without");
        t.sale("sale 9;bidder 0 1;bidder 0 1;lot;lot;worth 0 1 300;worth 1 1 8;worth 0 1 0;worth 1 0 3;worth 1 1 300", 2);
        t.due("the last told", t.sale.worth(0, 1), 0);
        t.due("the last told", t.sale.worth(1, 1), 300);
        t.due("told once", t.sale.worth(1, 0), 3);
        t.due("without", t.sale.worth(0, 0), 0);
        t.sale("sale 9;bidder 0 1;bidder 0 1;lot;lot", 2);
        for (int k = 0; k < 4; k++) t.due("another sale", t.sale.worth(k / 2, k % 2), 0);
        // What a text with a fault told ahead of it must not last.
        saleFault(t, "sale 9;bidder 5 5;lot;worth 0 0 9;^x", BYTE);
        t.sale("sale 9;bidder 0 1;lot", 1);
        t.due("behind a fault", t.sale.worth(0, 0), 0);
    }

    private static void trickNumbers() {
        Bench t = new Bench("PRICE 0 to 99; EFFECT 1 to 99");
        t.sale("sale 9;trick 0 1;trick 99 99;trick 00000 00099", 0);
        int[] want = {0, 1, 99, 99, 0, 99};
        for (int k = 0; k < 6; k++) t.due("trick", t.sale.trick(k / 2, k % 2), want[k]);
        for (String bad : new String[] {"^100 1", "^99999 1", "0 ^0", "0 ^100", "99 ^99999"}) saleFault(t, "sale 9;trick " + bad, NUMBER);
    }

    private static void fiveThreeThree() {
        Bench t = new Bench("BIDDERS 0 to 4, LOTS 0 to 2, TRICKS 0 to 2, in the order told");
        t.sale("sale 9", 0);
        for (int k = 1; k <= 3; k++) t.due("none", t.sale.count(k), 0);
        t.sale("sale 9;lot;bidder 10 11;trick 1 2;bidder 20 21;lot;trick 3 4;bidder 30 31;bidder 40 41;lot;bidder 50 51;trick 5 6", 3);
        int[] counts = {5, 3, 3};
        for (int k = 0; k < 3; k++) t.due("how many", t.sale.count(k + 1), counts[k]);
        for (int b = 0; b < 5; b++) {
            t.due("purse", t.sale.bidder(b, 0), 10 * b + 10);
            t.due("patience", t.sale.bidder(b, 1), 10 * b + 11);
        }
        for (int k = 0; k < 6; k++) t.due("trick", t.sale.trick(k / 2, k % 2), k + 1);
        saleFault(t, "sale 9" + ";bidder 0 1".repeat(5) + ";^bidder 0 1", CLAUSE);
        saleFault(t, "sale 9" + ";bidder 0 1".repeat(5) + ";lot;^bidder", CLAUSE);
        saleFault(t, "sale 9" + ";lot".repeat(3) + "; ^lot", CLAUSE);
        saleFault(t, "sale 9" + ";trick 0 1".repeat(3) + ";^trick 0 1", CLAUSE);
        saleFault(t, "sale 9" + ";trick 0 1".repeat(3) + ";^tricks 0 1", BYTE);
    }

    private static void minuteZero() {
        Bench t = new Bench("it is minute 0; nobody sits, no bell has rung");
        String text = "sale 9;bidder 9 9;bidder 9 9;bidder 9 9;bidder 9 2;lot;lot;lot;worth 0 0 9;worth 1 0 9;worth 2 1 5;worth 3 1 5;trick 1 1";
        t.sale(text, 3).sit(0, 0, 1, 1);
        t.sale.bell(0);
        t.sale.bell(1);
        t.sale.play(0, 1, 0);
        t.minutes(3);
        t.due("2 has paid", t.sale.lot(1, 3), 2);
        t.sale.sit(3, 2);
        t.sale.bell(2);
        t.sale(text, 3);
        for (int k = 6; k <= 12; k++) t.due("count(" + k + ")", t.sale.count(k), 0);
        for (int b = 0; b < 4; b++) {
            int[] want = {9, b == 3 ? 2 : 9, NONE, 0, 0, 0, 0};
            for (int k = 0; k < 7; k++) t.due("bidder", t.sale.bidder(b, k), want[k]);
        }
        for (int l = 0; l < 3; l++) {
            int[] want = {0, 0, NONE, 0, 0, 0};
            for (int k = 0; k < 6; k++) t.due("lot", t.sale.lot(l, k), want[k]);
        }
    }

    private static void saleInPlace() {
        Bench t = new Bench("no LOGS, nothing to be UNDONE; the RULE IN FORCE and x stay; -2 - its FAULT, and all stays");
        t.sale("sale 9;bidder 9 9;lot", 1).rule("speak 1", 0);
        t.sale.force(0);
        t.sale.seed(7);
        t.sale.sit(0, 0);
        t.sale.log(0, 0, 0);
        t.sale.image(1);
        saleFault(t, "sale 8;lot;^x", BYTE);
        t.due("acts stay", t.sale.count(12), 1);
        t.due("the tape stays", t.sale.count(14), 12);
        t.due("the tape is as it was", t.sale.end(10), 10);
        t.due("sale", t.sale.sale(), 1);
        int[] want = {8, 0, 1, 0, 1, 0, 0, 0, 0, 0, 0, 0, 0, 7, 0};
        for (int k = 0; k < 15; k++) t.due("count(" + k + ")", t.sale.count(k), want[k]);
        t.dueIdle("undo", t.sale::undo, NONE);
        t.due("an image stays", t.sale.back(1), 0);
        t.due("longest", t.sale.count(0), 9);
    }

    // ---- a rule ---------------------------------------------------------------------------------------------------

    private static void sixRules() {
        Bench t = new Bench("RULES 0 to 5; NONE, and nothing happens: there are 6");
        for (int k = 0; k < 6; k++) {
            t.due("rules", t.sale.count(4), k);
            ruleFault(t, "speak ^", BYTE);
            t.rule("speak " + k, k);
            t.due("the tape is empty", t.sale.count(14), 0);
        }
        for (String text : new String[] {"speak 7", "speak", "", "sale 9"}) {
            t.tape(text);
            t.dueIdle("a seventh", t.sale::rule, NONE);
        }
        t.due("the tape stays", t.sale.sale(), 0);
    }

    private static void clausesOfARule() {
        String name = "12 CLAUSES at most";
        Bench t = new Bench(name);
        takes(name, "speak 1");
        takes(name, "speak1" + ";speak1".repeat(11));
        ruleFault(t, "speak1" + ";speak1".repeat(11) + ";^speak1", CLAUSE);
        ruleFault(t, "speak1" + ";speak1".repeat(11) + ";  ^speak", CLAUSE);
        ruleFault(t, "speak1" + ";speak1".repeat(11) + ";^", BYTE);
        ruleFault(t, "speak1" + ";speak1".repeat(11) + ";^speaks", BYTE);
        ruleFault(t, "speak1" + ";speak1".repeat(11) + "^,", BYTE);
    }

    private static void digits() {
        String name = "NUMBER (1 to 5 digits, as far as digits go on)";
        Bench t = new Bench(name);
        for (String good : new String[] {"0", "00000", "9", "99999"}) takes(name, "speak " + good);
        for (String bad : new String[] {"^000000", "^100000", "^000001", "^2147483648", "^4294967296", "^" + "9".repeat(300)}) {
            ruleFault(t, "speak " + bad, NUMBER);
            ruleFault(t, "speak 1 if 1 = " + bad, NUMBER);
            saleFault(t, "sale " + bad, NUMBER);
        }
        saleFault(t, "sale 9;bidder ^000007 1", NUMBER);
        ruleFault(t, "speak 1 ^1", BYTE);
        ruleFault(t, "speak 1^.5", BYTE);
        ruleFault(t, "speak ^-1", BYTE);
        ruleFault(t, "speak ^+1", BYTE);
    }

    private static void letters() {
        String name = "WORDS (small letters, as far as these go on)";
        Bench t = new Bench(name);
        for (String word : "bidder lot worth purse patience minute others tricked best rooms".split(" ")) {
            takes(name, "speak " + word);
            takes(name, "speak 1*" + word + "/1if 1<" + word);
            ruleFault(t, "speak ^" + word + "s", BYTE);
            ruleFault(t, "speak ^" + word.substring(1), BYTE);
            ruleFault(t, "speak ^" + word.substring(0, word.length() - 1), BYTE);
            ruleFault(t, "speak ^" + word.toUpperCase(), BYTE);
            ruleFault(t, "speak ^speak", BYTE);
            ruleFault(t, "^speak" + word, BYTE);
            ruleFault(t, "speak " + word + " ^" + word, BYTE);
        }
        takes(name, "speak1if2=2and3=3or4=4");
        ruleFault(t, "speak lot^2", BYTE);
        ruleFault(t, "speak 1 ^iff 1 = 1", BYTE);
        ruleFault(t, "speak 1 if ^nota = 1", BYTE);
        ruleFault(t, "speak 1 if 1 = 1 ^andnot 1 = 1", BYTE);
        ruleFault(t, "speak ^if 1 = 1", BYTE);
    }

    private static void signs() {
        Bench t = new Bench("SIGN one of < <= = >= >");
        for (String sign : new String[] {"<", "<=", "=", ">=", ">"}) takes("SIGN one of < <= = >= >", "speak 1 if 1" + sign + "2");
        for (String bad : new String[] {"<^>", "=^<", "=^>", "=^=", "<=^=", "< ^=", "> ^=", ">^<", "<^<", "^!=", "^!", "^]", "^["}) {
            ruleFault(t, "speak 1 if 1 " + bad + " 2", BYTE);
        }
        ruleFault(t, "speak 1 if 1 = 2 ^= 3", BYTE);
        ruleFault(t, "speak 1 ^= 2", BYTE);
    }

    private static void blanks() {
        String name = "Blanks (32) stand between as one likes";
        Bench t = new Bench(name);
        t.sale("sale9;bidder1 2;lot;worth0 0 3;trick4 5", 1);
        t.sale("   sale   9   ;   bidder   1   2   ;   lot   ;   worth   0   0   3   ;   trick   4   5   ", 1);
        takes(name, "speak1+2if[3<4and5>=6]or not7=8;speak9");
        takes(name, "  speak  1  +  2  if  [  3  <  4  and  5  >=  6  ]  or  not  7  =  8  ;  speak  9  ");
        saleFault(t, "sale^\t9", BYTE);
        saleFault(t, "sale 9^\n;lot", BYTE);
        saleFault(t, "^\u0000sale 9", BYTE);
        saleFault(t, "^sal e 9", BYTE);
        saleFault(t, "sale 1 ^2", BYTE);
        ruleFault(t, "^sp eak 1", BYTE);
        ruleFault(t, "speak 1^\t", BYTE);
        ruleFault(t, "speak ^ro oms", BYTE);
    }

    private static void tenDeep() {
        String name = "[ and not lie within one another 10 deep at most";
        Bench t = new Bench(name);
        takes(name, "speak 1 if " + "[".repeat(10) + "1=1" + "]".repeat(10));
        takes(name, "speak 1 if " + "not ".repeat(10) + "1=1");
        takes(name, "speak 1 if " + "not[".repeat(5) + "1=1" + "]".repeat(5));
        takes(name, "speak 1 if " + "[not ".repeat(5) + "1=1" + "]".repeat(5));
        // Side by side they do not lie within one another, and each clause begins anew.
        takes(name, "speak 1 if " + "not[[1=1]]and ".repeat(14) + "[1=1]");
        takes(name, ("speak 1 if " + "[".repeat(10) + "1=1" + "]".repeat(10) + ";").repeat(3) + "speak 1 if " + "not ".repeat(10) + "1=1");
        takes(name, "speak 1 if " + "[".repeat(9) + "not 1=1 and not 2=2 or not 3=3" + "]".repeat(9) + " and " + "not ".repeat(10) + "4=4");
        ruleFault(t, "speak 1 if " + "[".repeat(10) + "^[1=1" + "]".repeat(11), DEPTH);
        ruleFault(t, "speak 1 if " + "not ".repeat(10) + "^not 1=1", DEPTH);
        ruleFault(t, "speak 1 if " + "not ".repeat(10) + "^[1=1]", DEPTH);
        ruleFault(t, "speak 1 if " + "[".repeat(10) + " ^not 1=1" + "]".repeat(10), DEPTH);
        ruleFault(t, "speak 1 if " + "[".repeat(9) + "[1=1] and not ^[1=1]", DEPTH);
        ruleFault(t, "speak 1 if " + "[".repeat(10) + "1=1 and ^[2=2", DEPTH);
        ruleFault(t, "speak 1 if 1=1 and " + "not[".repeat(5) + "^not", DEPTH);
        ruleFault(t, "speak 1 if " + "[".repeat(10) + "^nota", BYTE);
    }

    private static void sixtyPieces() {
        String name = "at most 60 VALUES (of SUMS) and FACTS made of a SIGN, together";
        Bench t = new Bench(name);
        takes(name, "speak 1" + "+1".repeat(59));
        takes(name, "speak 1" + "*lot".repeat(59));
        takes(name, "speak 1" + "+1".repeat(56) + " if 1 < 2");
        takes(name, "speak 1" + "+1".repeat(26) + ";speak 1" + "+1".repeat(29) + " if 1 < 2");
        // 2, 19 times 3, and 1 are 60: neither [ nor not nor and nor or is one of them.
        takes(name, "speak 1+1 if not 1=1" + " and[1=1]".repeat(9) + " or 1=1".repeat(9) + ";speak 1");
        ruleFault(t, "speak 1" + "+1".repeat(59) + "+^1", PIECE);
        ruleFault(t, "speak 1" + "+1".repeat(59) + "+ ^lot", PIECE);
        ruleFault(t, "speak 1" + "+1".repeat(59) + ";speak ^1", PIECE);
        ruleFault(t, "speak 1" + "+1".repeat(59) + " if ^1 < 2", PIECE);
        ruleFault(t, "speak 1" + "+1".repeat(58) + " if 1 ^< 2", PIECE);
        ruleFault(t, "speak 1" + "+1".repeat(58) + " if 1 ^>= 2", PIECE);
        ruleFault(t, "speak 1" + "+1".repeat(57) + " if 1 < ^2", PIECE);
        ruleFault(t, "speak 1+1 if not 1=1" + " and[1=1]".repeat(9) + " or 1=1".repeat(9) + ";speak 1;speak ^1", PIECE);
    }

    // ---- faults ---------------------------------------------------------------------------------------------------

    private static void firstAlongTheText() {
        Bench t = new Bench("FAULTS, the first along the text");
        saleFault(t, "sale ^0;bidder 1000 0;sale 9;x", NUMBER);
        saleFault(t, "sale 9;bidder ^1000 0;sale 9", NUMBER);
        saleFault(t, "sale 9;bidder 1 1;^sale 0;x", CLAUSE);
        saleFault(t, "^lot;sale 0", CLAUSE);
        saleFault(t, "sale 9;^x;sale 0", BYTE);
        saleFault(t, "sale ^000000x", NUMBER);
        ruleFault(t, "speak ^x if 1 = 000000", BYTE);
        ruleFault(t, "speak 1 if 1 = ^000000 x", NUMBER);
        ruleFault(t, "speak 1 if " + "[".repeat(10) + "^[x = 000000", DEPTH);
        ruleFault(t, "speak 1" + "+1".repeat(59) + "+^1+x+000000", PIECE);
    }

    private static void ofOnePlaceTheLeast() {
        Bench t = new Bench("of one place the least");
        ruleFault(t, "speak 1" + "+1".repeat(59) + "+^000001", NUMBER);
        ruleFault(t, "speak 1" + "+1".repeat(59) + "+^loot", BYTE);
        ruleFault(t, "speak 1" + "+1".repeat(59) + "+^", BYTE);
        ruleFault(t, "speak 1" + "+1".repeat(58) + " if 1 ^!", BYTE);
        ruleFault(t, "speak 1" + "+1".repeat(58) + " if 1 ^", BYTE);
        ruleFault(t, "speak 1" + "+1".repeat(59) + " if " + "[".repeat(10) + "^[", DEPTH);
        ruleFault(t, "speak1;".repeat(12) + "^x", BYTE);
        saleFault(t, "sale 9;lot;lot;lot;^lott", BYTE);
    }

    private static void theirNumbers() {
        Bench t = new Bench("1 + 8 * its place and 0 to 4; -2 - its FAULT");
        t.tape("");
        t.due("0 at 0", t.sale.sale(), -3);
        t.tape("sale 0");
        t.due("1 at 5", t.sale.sale(), -44);
        t.tape("speak 1 if " + "[".repeat(11));
        t.due("2 at 21", t.sale.rule(), -173);
        t.tape("speak 1" + "+1".repeat(60));
        t.due("3 at 126", t.sale.rule(), -1014);
        t.tape("lot");
        t.due("4 at 0", t.sale.sale(), -7);
        t.tape(" ".repeat(400));
        t.due("0 at 400", t.sale.sale(), -3203);
    }

    public static void main(String[] args) {
        twentyBytes();
        bytesAboveOneHundredTwentySeven();
        feedMoreThanFourHundred();
        endHasNotSoMany();
        fourHundredBytes();
        emptyText();
        clausesOfASale();
        longest();
        firstClause();
        purse();
        patience();
        worthOfThoseTold();
        worthNumbers();
        worthToldTwice();
        trickNumbers();
        fiveThreeThree();
        minuteZero();
        saleInPlace();
        sixRules();
        clausesOfARule();
        digits();
        letters();
        signs();
        blanks();
        tenDeep();
        sixtyPieces();
        firstAlongTheText();
        ofOnePlaceTheLeast();
        theirNumbers();
        Bench.close("TextBounds");
    }
}
