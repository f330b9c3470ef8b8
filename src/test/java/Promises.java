/** Promises 1 to 32, one method each or more: what is due was worked out by hand from the document. */
public final class Promises {
    private static final int NONE = -1;
    /** Course in room 0 without a rule: 2 coughs in the 8th minute, 1 speaks in the 21st, 0 has it for 21. */
    private static final String THREE = "sale 60;bidder 100 50;bidder 20 40;bidder 90 8;lot;lot;worth 0 0 30;worth 1 0 25;"
        + "worth 2 0 40;worth 0 1 5;worth 1 1 9;trick 3 10;trick 1 2";

    private static Bench three(String name) { return new Bench(name).sale(THREE, 2); }
    private static Bench inRoom(String name) {
        Bench t = three(name).sit(0, 0, 0);
        t.due("bell(0)", t.sale.bell(0), 3);
        return t;
    }

    private static void newObject() {
        Bench t = new Bench("1 new");
        int[] want = {0, 0, 0, 0, 0, NONE, 0, 0, 0, 0, 0, 0, 0, 0, 0};
        for (int k = 0; k < 15; k++) t.due("count(" + k + ")", t.sale.count(k), want[k]);
        t.due("NONE", SilentSale.NONE, -1);
        t.dueIdle("bidder", () -> t.sale.bidder(0, 0), -1000);
        t.dueIdle("lot", () -> t.sale.lot(0, 0), -2);
        t.dueIdle("worth", () -> t.sale.worth(0, 0), NONE);
        t.dueIdle("trick", () -> t.sale.trick(0, 0), NONE);
        t.dueIdle("minute", t.sale::minute, NONE);
        t.dueIdle("sit", () -> t.sale.sit(0, NONE), -2);
        t.dueIdle("bell", () -> t.sale.bell(0), NONE);
        t.dueIdle("play", () -> t.sale.play(0, 1, 0), NONE);
        t.dueIdle("fire", () -> t.sale.fire(0), NONE);
        t.dueIdle("undo", t.sale::undo, NONE);
        t.dueIdle("ahead", () -> t.sale.ahead(0, 0, 0), -1000);
        t.dueIdle("ends", () -> t.sale.ends(0, 0), -2);
        t.dueIdle("hold", () -> t.sale.hold(0, 0), -1000);
        t.dueIdle("rests", () -> t.sale.rests(0, 1, 0, 0), NONE);
        t.dueIdle("seats", () -> t.sale.seats(0), -1000);
        t.dueIdle("tricks", () -> t.sale.tricks(0, 0), -4);
        t.dueIdle("ring", () -> t.sale.ring(3, 0), -1000);
        t.dueIdle("breath", () -> t.sale.breath(0), NONE);
        t.dueIdle("log", () -> t.sale.log(0, NONE, 0), -2);
        t.dueIdle("log", () -> t.sale.log(NONE, 7, -7), 0);
        t.dueIdle("ruled", () -> t.sale.ruled(0), -3);
        t.dueIdle("look", () -> t.sale.look(0), NONE);
        t.dueIdle("coughs", () -> t.sale.coughs(1, 1, 1, 0), NONE);
        t.dueIdle("back", () -> t.sale.back(0), NONE);
        t.dueIdle("force", () -> t.sale.force(0), -2);
        t.dueIdle("force", () -> t.sale.force(NONE), NONE);
    }

    private static void feed() {
        Bench t = new Bench("2 feed");
        for (int k = 1; k <= 20; k++) t.due("feed", t.sale.feed(0, 0, 0, 0, 0), 20 * k);
        t.dueIdle("feed beyond 400", () -> t.sale.feed(0, 0, 0, 0, 0), NONE);
        t.sale.end(381);
        t.dueIdle("feed to 401", () -> t.sale.feed(0, 0, 0, 0, 0), NONE);
        t.sale.end(380);
        t.due("feed to 400", t.sale.feed(1, 2, 3, 4, 5), 400);
        // "sale 9;lot;lot      ", the highest byte of each number first.
        t.sale.end(0);
        t.due("feed", t.sale.feed(0x73616c65, 0x20393b6c, 0x6f743b6c, 0x6f742020, 0x20202020), 20);
        t.due("sale", t.sale.sale(), 2);
    }

    private static void end() {
        Bench t = new Bench("3 end");
        t.dueIdle("end(1) of nothing", () -> t.sale.end(1), NONE);
        t.due("end(0)", t.sale.end(0), 0);
        t.tape("sale 9;lot  ");
        t.dueIdle("end(13)", () -> t.sale.end(13), NONE);
        t.dueIdle("end(-1)", () -> t.sale.end(-1), NONE);
        t.dueIdle("end(least)", () -> t.sale.end(Integer.MIN_VALUE), NONE);
        t.dueIdle("end(12)", () -> t.sale.end(12), 12);
        t.due("end(6)", t.sale.end(6), 6);
        t.due("count", t.sale.count(14), 6);
        t.due("sale", t.sale.sale(), 0);
        t.due("count", t.sale.count(14), 0);
    }

    private static void sale() {
        Bench t = new Bench("4 sale");
        t.sale("sale 9", 0).sale("  sale9;bidder1 2 ;lot;worth 0 0 7;worth 0 0 8;trick00003 4  ", 1);
        t.due("longest", t.sale.count(0), 9);
        t.due("the last told", t.sale.worth(0, 0), 8);
        t.due("price", t.sale.trick(0, 0), 3);
        t.rule("speak 1", 0);
        t.sale.force(0);
        t.sale.seed(77);
        t.sale.sit(0, 0);
        t.sale.log(0, 0, 1);
        t.sale(THREE, 2);
        int[] want = {60, 3, 2, 2, 1, 0, 0, 0, 0, 0, 0, 0, 0, 77, 0};
        for (int k = 0; k < 15; k++) t.due("count(" + k + ")", t.sale.count(k), want[k]);
        t.due("nobody sits", t.sale.bidder(0, 2), NONE);
        t.due("no worth told", t.sale.worth(2, 1), 0);
    }

    private static void saleFaults() {
        Bench t = inRoom("4 faults of a sale");
        t.saleFault("", 0, 0);
        t.saleFault("   ", 3, 0);
        t.saleFault("sale", 4, 0);
        t.saleFault("sale  ", 6, 0);
        t.saleFault("sales 9", 0, 0);
        t.saleFault("Sale 9", 0, 0);
        t.saleFault("sale 0", 5, 1);
        t.saleFault("sale 301", 5, 1);
        t.saleFault("sale 000009", 5, 1);
        t.saleFault("sale x", 5, 0);
        t.saleFault("sale 9 9", 7, 0);
        t.saleFault("sale 9;", 7, 0);
        t.saleFault("sale 9;;lot", 7, 0);
        t.saleFault("sale 9; ;lot", 8, 0);
        t.saleFault("sale 9,lot", 6, 0);
        t.saleFault("sale 9\u0000", 6, 0);
        t.saleFault("sale 9;speak 1", 7, 0);
        t.saleFault("lot", 0, 4);
        t.saleFault(" bidder 1 1", 1, 4);
        t.saleFault("sale 9; sale 9", 8, 4);
        t.saleFault("sale 9;bidder 1000 1", 14, 1);
        t.saleFault("sale 9;bidder 999 0", 18, 1);
        t.saleFault("sale 9;bidder 0 301", 16, 1);
        t.saleFault("sale 9;bidder 0", 15, 0);
        t.saleFault("sale 9;bidder 1 1 1", 18, 0);
        t.saleFault("sale 9;lot 123456", 11, 0);
        t.saleFault("sale 9;lotz", 7, 0);
        t.saleFault("sale 9;alot", 7, 0);
        t.saleFault("sale 9;lo", 7, 0);
        t.saleFault("sale 9;lot2", 10, 0);
        t.saleFault("sale 9lot", 6, 0);
        t.saleFault("sale 9;lot;worth 0 0 0", 17, 1);
        t.saleFault("sale 9;bidder 0 1;worth 0 0 0", 26, 1);
        t.saleFault("sale 9;bidder 0 1;lot;worth 0 0 301", 32, 1);
        t.saleFault("sale 9;bidder 0 1;lot;worth 1 0 0", 28, 1);
        t.saleFault("sale 9;bidder 0 1;lot;worth 0 1 0", 30, 1);
        t.saleFault("sale 9;trick 100 1", 13, 1);
        t.saleFault("sale 9;trick 99 0", 16, 1);
        t.saleFault("sale 9;trick 0 100", 15, 1);
        t.saleFault("sale 9;lot;lot;lot;lot", 19, 4);
        t.saleFault("sale 9;lot;lot;lot;lots", 19, 0);
        t.saleFault("sale 9;trick 0 1;trick 0 1;trick 0 1;trick x", 37, 4);
        t.saleFault("sale 9;bidder 0 1;bidder 0 1;bidder 0 1;bidder 0 1;bidder 0 1;bidder 0 1", 62, 4);
        t.sale("sale 300;bidder 0 1;bidder 999 300;bidder 0 1;bidder 0 1;bidder 0 1;lot;lot;lot;worth 4 2 300;"
            + "trick 0 1;trick 99 99;trick 0 1", 3);
    }

    private static void rule() {
        Bench t = new Bench("5 rule");
        for (int k = 0; k < 6; k++) t.rule("speak " + k, k);
        t.tape("speak 7");
        t.dueIdle("a seventh", t.sale::rule, NONE);
        t.tape("speak");
        t.dueIdle("a seventh with a fault", t.sale::rule, NONE);
        t.due("rules", t.sale.count(4), 6);
        t.due("the tape of a seventh stays", t.sale.feed(0, 0, 0, 0, 0), 25);
    }

    private static void ruleFaults() {
        Bench t = new Bench("5 faults of a rule");
        t.sale.feed(0, 0, 0, 0, 0);
        t.due("twenty bytes that can't stand there", t.sale.rule(), Bench.fault(0, 0));
        t.due("the tape is empty behind a fault", t.sale.feed(0, 0, 0, 0, 0), 20);
        t.due("the tape of a sale with a fault", t.sale.sale(), Bench.fault(0, 0));
        t.due("stays", t.sale.feed(0, 0, 0, 0, 0), 40);
        t.ruleFault("", 0, 0);
        t.ruleFault("speak", 5, 0);
        t.ruleFault("speaks 1", 0, 0);
        t.ruleFault("sale 9", 0, 0);
        t.ruleFault("speak x", 6, 0);
        t.ruleFault("speak not 1 = 1", 6, 0);
        t.ruleFault("speak -1", 6, 0);
        t.ruleFault("speak 1;", 8, 0);
        t.ruleFault("speak 1 if", 10, 0);
        t.ruleFault("speak 1 if 2", 12, 0);
        t.ruleFault("speak 1 if 2 =", 14, 0);
        t.ruleFault("speak 1 if 2 < = 3", 15, 0);
        t.ruleFault("speak 1 if 2 == 3", 14, 0);
        t.ruleFault("speak 1 if 2 =< 3", 14, 0);
        t.ruleFault("speak 1 if 1 = 1]", 16, 0);
        t.ruleFault("speak 1 if [1 = 1", 17, 0);
        t.ruleFault("speak 1 if [1 = 1;speak 1", 17, 0);
        t.ruleFault("speak 1 if [1] = 1", 13, 0);
        t.ruleFault("speak 1 if 1 = 1 if 1 = 1", 17, 0);
        t.ruleFault("speak 1 if 1 = 1 orbest = 1", 17, 0);
        t.ruleFault("speak 1 if 1 = 2 = 3", 17, 0);
        t.ruleFault("speak 1 if 1 = 1 and", 20, 0);
        t.ruleFault("speak 5 %", 9, 0);
        t.ruleFault("speak 1 = 1", 8, 0);
        t.ruleFault("speak 100000", 6, 1);
        t.ruleFault("speak 1 + 000000", 10, 1);
        t.ruleFault("speak 1 2", 8, 0);
        t.ruleFault("speak 1 if " + "[".repeat(11) + "1", 21, 2);
        t.ruleFault("speak 1 if " + "not ".repeat(11) + "1", 51, 2);
        t.ruleFault("speak 1 if " + "[".repeat(9) + "not [", 24, 2);
        t.ruleFault("speak1;".repeat(12) + "speak 1", 84, 4);
        t.ruleFault("speak1;".repeat(12) + " spoke 1", 85, 0);
        t.ruleFault("speak 1" + "+1".repeat(60), 6 + 2 * 60, 3);
        t.ruleFault("speak 1" + "+1".repeat(59) + "+x", 6 + 2 * 60, 0);
        t.ruleFault("speak 1" + "+1".repeat(59) + "+000001", 6 + 2 * 60, 1);
        t.ruleFault("speak 1" + "+1".repeat(58) + " if 1 < 2", 6 + 2 * 59 - 1 + 6, 3);
        t.ruleFault("speak 1" + "+1".repeat(57) + " if 1 < 2", 6 + 2 * 58 - 1 + 8, 3);
        t.ruleFault("speak 1" + "+1".repeat(59) + " if 1", 6 + 2 * 59 + 5, 3);
        t.rule("speak 1" + "+1".repeat(59), 0);
        t.rule("speak1if" + "[".repeat(4) + "not[not[not not 1<2" + "]".repeat(6), 1);
        t.rule("speak1;".repeat(11) + "speak 99999", 2);
        t.rule("speak 1 if " + "[1=1 or not 2>=bidder] and ".repeat(5) + "not" + "[".repeat(9) + "1=1" + "]".repeat(9), 3);
        t.rule("speak 1 if " + "[".repeat(10) + "1=1" + "]".repeat(10) + " and 2=2 or 3=3", 4);
    }

    /** One who is silent beside another one who never speaks: does the rule make them speak? */
    private static void speaks(String sum, boolean want) {
        Bench t = new Bench("5 what a rule says: " + sum);
        t.sale("sale 100;bidder 50 60;bidder 70 80;lot;lot;worth 0 1 33;worth 1 1 44;trick 5 6", 2).sit(1, 1);
        t.sale.bell(1);
        t.sale.play(1, 0, 0);
        t.rule("speak 0", 0);
        t.sale.force(0);
        t.minutes(4);
        t.rule("speak 0 if bidder = 1;" + sum, 1);
        t.sale.force(1);
        t.due("minute", t.sale.minute(), want ? 1 : 0);
    }

    private static void ruleWords() {
        speaks("speak 1", true);
        speaks("speak 0", false);
        speaks("speak 0 - 1", false);
        speaks("speak 0 if 1 = 1;speak 1", false);
        speaks("speak 1 if 1 = 2", false);
        speaks("speak 0 if 1 = 2;speak 1", true);
        String[] words = {"bidder = 0", "lot = 1", "worth = 33", "purse = 50", "patience = 60 - 6 - 4", "minute = 4", "others = 1",
            "tricked = 1", "best = 44", "rooms = 1"};
        for (String word : words) speaks("speak 1 if " + word, true);
        speaks("speak 1 if 1 < 2 and 2 <= 2 and 2 = 2 and 2 >= 2 and 3 > 2", true);
        for (String fact : new String[] {"2 < 2", "3 <= 2", "1 = 2", "1 >= 2", "2 > 2"}) speaks("speak 1 if " + fact, false);
        speaks("speak 1 if 1 = 1 or 1 = 1 and 1 = 2", true);
        speaks("speak 1 if [1 = 1 or 1 = 1] and 1 = 2", false);
        speaks("speak 1 if not 1 = 2 and 1 = 2", false);
        speaks("speak 1 if not [1 = 2 and 1 = 2]", true);
        speaks("speak 1 if not not 1 = 1", true);
        speaks("speak 1 if 2 + 3 * 4 - 1 = 13", true);
        speaks("speak 1 if 100 / 7 % 5 * 2 = 8", true);
        speaks("speak 1 if 10 - 3 - 2 = 5", true);
        speaks("speak 1 if 7 / 0 = 0 and 7 % 0 = 0", true);
        // The second of these goes round below 0 in 64 bits: it is -9223020790942360840 then.
        speaks("speak 99999 * 99999 * 99999 * 9223", true);
        speaks("speak 99999 * 99999 * 99999 * 9224", false);
        String low = "99999 * 99999 * 99999 * 9224";
        speaks("speak 1 if " + low + " / 7 * 7 - 4 = " + low, true);
        speaks("speak 1 if " + low + " % 7 + 4 = 0", true);
    }

    private static void bestOfTheWorthless() {
        Bench t = new Bench("5 best of others to whom it is worth nothing").sale("sale 9;bidder 9 9;bidder 9 9;lot;worth 0 0 7", 1).sit(0, 0);
        t.rule("speak 1 if best = 0", 0);
        t.sale.force(0);
        t.sale.bell(0);
        t.due("minute", t.sale.minute(), 1);
    }

    private static void force() {
        Bench t = inRoom("6 force");
        t.rule("speak 1 if bidder = 2", 0).rule("speak 1", 1);
        t.dueIdle("force(2)", () -> t.sale.force(2), -2);
        t.dueIdle("force(-2)", () -> t.sale.force(-2), -2);
        t.due("force(0)", t.sale.force(0), NONE);
        t.due("force(1)", t.sale.force(1), 0);
        t.due("force(0)", t.sale.force(0), 1);
        t.due("minute", t.sale.minute(), 4);
        t.due("force(NONE)", t.sale.force(NONE), 0);
        t.due("minute", t.sale.minute(), 0);
    }

    private static void bidder() {
        Bench t = inRoom("7 bidder");
        int[] before = {100, 50, 0, 1, 0, 0, 0};
        for (int k = 0; k < 7; k++) t.due("bidder(0, " + k + ")", t.sale.bidder(0, k), before[k]);
        t.sale.play(1, 0, 1);
        t.minutes(8);
        int[] coughed = {90, 0, 0, 0, 0, 0, 0};
        for (int k = 0; k < 7; k++) t.due("bidder(2, " + k + ")", t.sale.bidder(2, k), coughed[k]);
        t.minutes(13);
        int[] after = {79 + 1, 50 - 2 - 20, NONE, 0, 1, 1, 10};
        // One coin went for a trick, so that 1 speaks in the 20th minute.
        for (int k = 0; k < 7; k++) t.due("bidder(0, " + k + ") after", t.sale.bidder(0, k), after[k]);
        for (int[] no : new int[][] {{3, 0}, {-1, 0}, {0, 7}, {0, -1}}) t.dueIdle("bidder", () -> t.sale.bidder(no[0], no[1]), -1000);
    }

    private static void lot() {
        Bench t = inRoom("8 lot");
        int[] before = {1, 0, NONE, 0, 7, 7};
        for (int k = 0; k < 6; k++) t.due("lot(0, " + k + ")", t.sale.lot(0, k), before[k]);
        t.minutes(8);
        int[] on = {1, 8, NONE, 0, 7, 3};
        for (int k = 0; k < 6; k++) t.due("lot(0, " + k + ") at 8", t.sale.lot(0, k), on[k]);
        t.minutes(13);
        int[] after = {2, 21, 0, 21, 0, 0};
        for (int k = 0; k < 6; k++) t.due("lot(0, " + k + ") after", t.sale.lot(0, k), after[k]);
        t.due("lot(1, 0)", t.sale.lot(1, 0), 0);
        for (int[] no : new int[][] {{2, 0}, {-1, 0}, {0, 6}, {0, -1}}) t.dueIdle("lot", () -> t.sale.lot(no[0], no[1]), -2);
    }

    private static void worthAndTrick() {
        Bench t = three("9 worth, 10 trick");
        t.due("worth", t.sale.worth(2, 0), 40);
        t.due("worth", t.sale.worth(2, 1), 0);
        for (int[] no : new int[][] {{3, 0}, {-1, 0}, {0, 2}, {0, -1}}) t.dueIdle("worth", () -> t.sale.worth(no[0], no[1]), NONE);
        t.due("price", t.sale.trick(0, 0), 3);
        t.due("effect", t.sale.trick(0, 1), 10);
        t.due("price", t.sale.trick(1, 0), 1);
        for (int[] no : new int[][] {{2, 0}, {-1, 0}, {0, 2}, {0, -1}}) t.dueIdle("trick", () -> t.sale.trick(no[0], no[1]), NONE);
    }

    private static void minute() {
        Bench t = three("11 minute");
        t.dueIdle("minute when no lot goes on", t.sale::minute, NONE);
        t.sit(0, 0, 0);
        t.sale.bell(0);
        for (int k = 1; k <= 21; k++) t.due("minute " + k, t.sale.minute(), k == 8 ? 4 : k == 21 ? 2 : 0);
        t.due("the minute", t.sale.count(6), 21);
        t.dueIdle("minute when it is over", t.sale::minute, NONE);
        longestAndNobody();
        roomsOneAheadOfTheNext();
        purseIsTooSmall();
    }

    private static void longestAndNobody() {
        Bench t = new Bench("11 longest").sale("sale 2;bidder 9 9;bidder 9 9;lot;worth 0 0 9;worth 1 0 9", 1).sit(0, 0);
        t.sale.bell(0);
        t.due("1st", t.sale.minute(), 0);
        t.due("2nd", t.sale.minute(), 0);
        t.due("over", t.sale.lot(0, 0), 2);
        t.due("nobody has it", t.sale.lot(0, 2), NONE);
        t.due("nobody sits", t.sale.bidder(0, 2), NONE);
        Bench u = new Bench("11 nobody left").sale("sale 9;bidder 9 1;bidder 9 1;lot;worth 0 0 9;worth 1 0 9", 1).sit(0, 0);
        u.sale.bell(0);
        u.due("both cough", u.sale.minute(), 3);
        u.due("nobody has it", u.sale.lot(0, 2), NONE);
        u.due("over", u.sale.lot(0, 0), 2);
        Bench v = new Bench("11 one left at the last minute").sale("sale 2;bidder 9 2;bidder 9 9;lot;worth 0 0 9;worth 1 0 9", 1).sit(0, 0);
        v.sale.bell(0);
        v.minutes(2);
        v.due("1 has it", v.sale.lot(0, 2), 1);
        v.due("for 2", v.sale.lot(0, 3), 2);
    }

    /** Room 1 sees that room 0 was over in the same minute. */
    private static void roomsOneAheadOfTheNext() {
        Bench t = new Bench("11 rooms").sale("sale 9;bidder 9 9;bidder 9 9;bidder 9 9;bidder 9 9;lot;lot", 2).sit(0, 0, 1, 1);
        t.rule("speak 1 if bidder = 0;speak 1 if lot = 1 and bidder = 2 and rooms = 1", 0);
        t.sale.force(0);
        t.sale.bell(0);
        t.sale.bell(1);
        t.due("minute", t.sale.minute(), 5);
        t.due("1 has room 0", t.sale.lot(0, 2), 1);
        t.due("3 has room 1", t.sale.lot(1, 2), 3);
    }

    private static void purseIsTooSmall() {
        Bench t = new Bench("11 purse").sale("sale 9;bidder 2 9;bidder 9 4;lot", 1).sit(0, 0);
        t.rule("speak 0", 0);
        t.sale.force(0);
        t.sale.bell(0);
        t.minutes(4);
        t.due("0 has it", t.sale.lot(0, 2), 0);
        t.due("for all they have", t.sale.lot(0, 3), 2);
        t.due("purse", t.sale.bidder(0, 0), 0);
        t.due("gain", t.sale.bidder(0, 6), -2);
        Bench u = new Bench("11 no patience").sale("sale 9;bidder 9 1;bidder 9 9;bidder 9 9;lot;lot;worth 1 0 9;worth 2 0 9", 2).sit(0, 0, 0);
        u.rule("speak 0", 0);
        u.sale.force(0);
        u.sale.bell(0);
        u.due("a cough", u.sale.minute(), 1);
        u.due("patience", u.sale.bidder(0, 1), 0);
        u.due("moves", u.sale.sit(0, 1), 0);
        u.due("alone", u.sale.bell(1), 1);
    }

    private static void sit() {
        Bench t = three("12 sit");
        t.due("sit", t.sale.sit(0, 0), NONE);
        t.dueIdle("by the same", () -> t.sale.sit(0, 0), -2);
        t.due("by another", t.sale.sit(0, 1), 0);
        t.due("by none", t.sale.sit(0, NONE), 1);
        t.due("by none again", t.sale.sit(0, NONE), NONE);
        t.due("acts", t.sale.count(12), 4);
        for (int[] no : new int[][] {{3, 0}, {-1, 0}, {0, 2}, {0, -2}}) t.dueIdle("sit", () -> t.sale.sit(no[0], no[1]), -2);
        t.sit(0, 0, 0);
        t.sale.bell(0);
        t.dueIdle("who is silent", () -> t.sale.sit(0, 1), -2);
        t.dueIdle("who is silent", () -> t.sale.sit(0, NONE), -2);
        t.minutes(8);
        t.dueIdle("by one that goes on", () -> t.sale.sit(2, 0), -2);
        t.due("who coughed", t.sale.sit(2, 1), 0);
        t.dueIdle("by one that goes on", () -> t.sale.sit(2, 0), -2);
        t.minutes(13);
        t.dueIdle("by one that is over", () -> t.sale.sit(2, 0), -2);
        t.due("still there", t.sale.bidder(2, 2), 1);
    }

    private static void bell() {
        Bench t = three("13 bell").sit(0, 0, 1);
        for (int no : new int[] {-1, 2, Integer.MAX_VALUE}) t.dueIdle("bell", () -> t.sale.bell(no), NONE);
        t.due("two", t.sale.bell(0), 2);
        t.dueIdle("again", () -> t.sale.bell(0), NONE);
        t.due("one", t.sale.bell(1), 1);
        t.due("has it", t.sale.lot(1, 2), 2);
        t.due("for nothing", t.sale.lot(1, 3), 0);
        t.due("over", t.sale.lot(1, 0), 2);
        t.due("sits nowhere", t.sale.bidder(2, 2), NONE);
        t.due("is not silent", t.sale.bidder(2, 3), 0);
        t.dueIdle("over", () -> t.sale.bell(1), NONE);
        Bench u = three("13 bell of nobody");
        u.dueIdle("bell", () -> u.sale.bell(0), NONE);
    }

    private static void play() {
        Bench t = inRoom("14 play");
        t.due("play", t.sale.play(1, 0, 0), 40);
        t.due("purse", t.sale.bidder(1, 0), 17);
        t.due("tricked", t.sale.bidder(0, 4), 1);
        t.dueIdle("patience 8, effect 10", () -> t.sale.play(0, 2, 0), NONE);
        t.due("play", t.sale.play(0, 2, 1), 6);
        t.due("play", t.sale.play(0, 2, 1), 4);
        t.due("play", t.sale.play(0, 2, 1), 2);
        t.dueIdle("patience 2, effect 2", () -> t.sale.play(0, 2, 1), NONE);
        for (int[] no : new int[][] {{0, 0, 0}, {3, 0, 0}, {-1, 0, 0}, {0, 3, 0}, {0, -1, 0}, {0, 1, 2}, {0, 1, -1}}) {
            t.dueIdle("play", () -> t.sale.play(no[0], no[1], no[2]), NONE);
        }
        t.minutes(2);
        t.due("2 has coughed", t.sale.bidder(2, 3), 0);
        t.dueIdle("on one who has coughed", () -> t.sale.play(0, 2, 1), NONE);
        t.due("by one who has coughed", t.sale.play(2, 0, 1), 36);
        Bench u = new Bench("14 play without coins").sale("sale 9;bidder 2 9;bidder 3 9;lot;trick 3 1", 1).sit(0, 0);
        u.dueIdle("nobody is silent", () -> u.sale.play(1, 0, 0), NONE);
        u.sale.bell(0);
        u.dueIdle("2 coins", () -> u.sale.play(0, 1, 0), NONE);
        u.due("3 coins", u.sale.play(1, 0, 0), 8);
    }

    private static void fire() {
        Bench t = inRoom("15 fire").minutes(8);
        for (int no : new int[] {-1, 1, 2}) t.dueIdle("fire", () -> t.sale.fire(no), NONE);
        t.due("fire", t.sale.fire(0), 8);
        int[] want = {0, 0, NONE, 0, 7, 0};
        for (int k = 0; k < 6; k++) t.due("lot(0, " + k + ")", t.sale.lot(0, k), want[k]);
        t.due("patience", t.sale.bidder(0, 1), 42);
        t.dueIdle("again", () -> t.sale.fire(0), NONE);
        t.due("may move", t.sale.sit(0, 1), 0);
        t.due("bell", t.sale.bell(0), 2);
        t.due("who has no patience coughs", t.sale.minute(), 4);
        t.due("1 has it", t.sale.lot(0, 2), 1);
        t.dueIdle("over", () -> t.sale.fire(0), NONE);
    }

    private static void undo() {
        Bench t = three("16 undo");
        t.dueIdle("nothing", t.sale::undo, NONE);
        t.sit(0, 0, 0);
        t.sale.bell(0);
        t.minutes(8);
        t.sale.play(0, 1, 0);
        t.sale.fire(0);
        t.due("acts", t.sale.count(12), 14);
        t.due("undo fire", t.sale.undo(), 13);
        t.due("silent", t.sale.lot(0, 5), 3);
        t.due("minutes", t.sale.lot(0, 1), 8);
        t.due("undo trick", t.sale.undo(), 12);
        t.due("purse", t.sale.bidder(0, 0), 100);
        t.due("patience", t.sale.bidder(1, 1), 32);
        t.due("undo minute", t.sale.undo(), 11);
        t.due("silent", t.sale.lot(0, 5), 7);
        t.due("the minute", t.sale.count(6), 7);
        t.rule("speak 1", 0);
        t.sale.force(0);
        t.sale.seed(5);
        t.sale.log(0, 0, 1);
        for (int k = 10; k >= 0; k--) t.due("undo", t.sale.undo(), k);
        t.due("in force", t.sale.count(5), 0);
        t.due("x", t.sale.count(13), 5);
        t.due("logs", t.sale.count(11), 1);
        t.due("nobody sits", t.sale.lot(0, 4), 0);
        Bench u = three("16 undo of 20");
        for (int k = 0; k < 13; k++) { u.sale.sit(0, 0); u.sale.sit(0, NONE); }
        u.due("acts", u.sale.count(12), 20);
        for (int k = 19; k >= 0; k--) u.due("undo", u.sale.undo(), k);
        u.dueIdle("no more", u.sale::undo, NONE);
        u.sale.sit(0, 1);
        u.due("one more", u.sale.undo(), 0);
    }

    private static void ahead() {
        Bench t = inRoom("17 ahead");
        int[][] want = {{0, 20, 0, NONE}, {0, 21, 0, 0}, {1, 300, 0, NONE}, {2, 7, 1, 1}, {2, 8, 1, 0}, {0, 21, 1, 29}, {0, 300, 1, 29},
            {0, 20, 2, 0}, {0, 21, 2, 9}, {0, 0, 1, 50}, {1, 300, 2, 0}};
        for (int[] w : want) t.dueIdle("ahead", () -> t.sale.ahead(w[0], w[1], w[2]), w[3]);
        for (int[] no : new int[][] {{2, 0, 0}, {-1, 0, 0}, {3, 0, 1}, {-1, 0, 2}, {0, -1, 0}, {0, 301, 0}, {0, 0, 3}, {0, 0, -1}}) {
            t.dueIdle("ahead", () -> t.sale.ahead(no[0], no[1], no[2]), -1000);
        }
        t.rule("speak 1 if bidder = 0", 0);
        t.sale.force(0);
        t.due("by a rule", t.sale.ahead(0, 8, 0), 1);
    }

    private static void ends() {
        Bench t = inRoom("18 ends").minutes(2);
        t.dueIdle("in", () -> t.sale.ends(0, 0), 19);
        t.dueIdle("who", () -> t.sale.ends(0, 1), 0);
        t.dueIdle("coins", () -> t.sale.ends(0, 2), 21);
        for (int[] no : new int[][] {{1, 0}, {2, 0}, {-1, 0}, {0, 3}, {0, -1}}) t.dueIdle("ends", () -> t.sale.ends(no[0], no[1]), -2);
        t.rule("speak 1", 0);
        t.sale.force(0);
        t.due("in", t.sale.ends(0, 0), 1);
        t.due("who", t.sale.ends(0, 1), NONE);
        t.due("coins", t.sale.ends(0, 2), 0);
        t.minutes(1);
        t.dueIdle("over", () -> t.sale.ends(0, 0), -2);
        Bench u = new Bench("18 the longest").sale("sale 300;bidder 999 300;bidder 999 300;lot;worth 0 0 300;worth 1 0 300", 1).sit(0, 0);
        u.sale.bell(0);
        u.due("in", u.sale.ends(0, 0), 300);
        u.due("who", u.sale.ends(0, 1), NONE);
    }

    private static void hold() {
        Bench t = inRoom("19 hold");
        int[][] want = {{0, 0, 21}, {0, 1, 9}, {1, 0, 31}, {1, 1, 5}, {2, 0, 0}, {2, 1, 0}};
        for (int[] w : want) t.dueIdle("hold(" + w[0] + ", " + w[1] + ")", () -> t.sale.hold(w[0], w[1]), w[2]);
        t.minutes(3);
        for (int[] w : want) t.dueIdle("hold(" + w[0] + ", " + w[1] + ") at 3", () -> t.sale.hold(w[0], w[1]), w[2]);
        for (int[] no : new int[][] {{3, 0}, {-1, 0}, {0, 2}, {0, -1}}) t.dueIdle("hold", () -> t.sale.hold(no[0], no[1]), -1000);
        t.minutes(5);
        t.dueIdle("who has coughed", () -> t.sale.hold(2, 0), -1000);
        Bench u = new Bench("19 hold for a loss").sale("sale 30;bidder 99 30;bidder 99 30;lot;lot;worth 0 0 10;worth 1 0 10;worth 0 1 4", 2);
        u.sale.sit(0, 1);
        u.sale.bell(1);
        u.sit(0, 0);
        u.sale.bell(0);
        // 1 speaks in the 11th minute: it would be had for 11, and is worth 10.
        u.due("minutes", u.sale.hold(0, 0), 0);
        u.due("gain of the other lot", u.sale.hold(0, 1), 4);
    }

    private static void rests() {
        Bench t = three("20 rests");
        int[][] want = {{0, 1, 1, 0, 27}, {0, 1, 1, 1, 0}, {0, 1, 1, 2, 10}};
        for (int[] w : want) t.dueIdle("rests", () -> t.sale.rests(w[0], w[1], w[2], w[3]), w[4]);
        int[][] no = {{0, 0, 0, 0}, {3, 0, 0, 0}, {-1, 0, 0, 0}, {0, 3, 0, 0}, {0, -1, 0, 0}, {0, 1, 2, 0}, {0, 1, -1, 0}, {0, 1, 0, 3}, {0, 1, 0, -1}};
        for (int[] w : no) t.dueIdle("rests", () -> t.sale.rests(w[0], w[1], w[2], w[3]), NONE);
        // Worth nothing to both: alike ones, and whoever holds more than one that holds 0.
        t.due("how many", t.sale.rests(2, 3, 1, 0), NONE);
        Bench v = new Bench("20 rests for nothing").sale("sale 9;bidder 0 1;bidder 0 1;lot", 1);
        v.due("how many", v.sale.rests(1, 0, 0, 0), 28);
        v.due("first", v.sale.rests(1, 0, 0, 1), 0);
        v.due("second", v.sale.rests(1, 0, 0, 2), 0);
        // Worth 300 to both: each would rather hold more than the other one, as long as that can be.
        Bench u = new Bench("20 rests of the stubborn").sale("sale 9;bidder 0 1;bidder 0 1;lot;worth 0 0 300;worth 1 0 300", 1);
        u.due("how many", u.sale.rests(0, 1, 0, 0), 19);
        u.due("first", u.sale.rests(0, 1, 0, 1), 0);
        u.due("second", u.sale.rests(0, 1, 0, 2), 90);
    }

    private static void seats() {
        Bench t = three("21 seats");
        int[] want = {49, NONE, 1, 0, -2, -2};
        for (int k = 0; k < 6; k++) { int w = k; t.dueIdle("seats(" + k + ")", () -> t.sale.seats(w), want[k]); }
        t.dueIdle("seats(6)", () -> t.sale.seats(6), -1000);
        t.dueIdle("seats(-1)", () -> t.sale.seats(-1), -1000);
        t.sit(NONE, 0, 0);
        t.sale.bell(0);
        // 1 and 2 are silent: 2 coughs in the 8th minute, 1 has it for 8: 17; 0 has the other one: 5.
        int[] later = {22, 1, -2, -2, -2, -2};
        for (int k = 0; k < 6; k++) { int w = k; t.dueIdle("seats(" + k + ") later", () -> t.sale.seats(w), later[k]); }
        Bench u = new Bench("21 seats by a rule that minds rooms");
        u.sale("sale 9;bidder 9 9;bidder 9 9;lot;lot;worth 0 0 5;worth 1 1 6", 2).rule("speak rooms", 0);
        u.sale.force(0);
        int[] both = {11, 0, 1, -2, -2, -2};
        for (int k = 0; k < 6; k++) { int w = k; u.dueIdle("seats(" + k + ")", () -> u.sale.seats(w), both[k]); }
        seatsThatKeepARoomOpen();
        Bench v = new Bench("21 seats of nothing").sale("sale 9", 0);
        v.due("gains", v.sale.seats(0), 0);
        v.due("none such", v.sale.seats(1), -2);
    }

    /** 0 and 1 wait in room 0; by the rule 1 speaks once another room goes on in its 3rd minute, 0 when no other one does. */
    private static void seatsThatKeepARoomOpen() {
        Bench t = new Bench("21 seats that keep a room open");
        t.sale("sale 20;bidder 99 99;bidder 99 99;bidder 0 4;bidder 0 9;lot;lot;worth 0 0 50", 2).sit(0, 0);
        t.rule("speak rooms - 1 if bidder = 1 and minute = 2;speak 2 - rooms if bidder = 0;speak 0", 0);
        t.sale.force(0);
        t.sale.bell(0);
        // 2 and 3 sit by room 1 together: 2 coughs in the 4th minute, 0 has room 0 for 3. One alone would end it at once.
        int[] want = {47, -2, -2, 1, 1, -2};
        for (int k = 0; k < 6; k++) { int w = k; t.dueIdle("seats(" + k + ")", () -> t.sale.seats(w), want[k]); }
    }

    private static void tricks() {
        Bench t = inRoom("22 tricks");
        int[] free = {0, -2, NONE, NONE, -2, -2};
        for (int k = 0; k < 6; k++) { int w = k; t.dueIdle("tricks(0, " + k + ")", () -> t.sale.tricks(0, w), free[k]); }
        for (int k = 0; k < 6; k++) { int w = k; t.dueIdle("tricks(2, " + k + ")", () -> t.sale.tricks(2, w), -3); }
        for (int[] no : new int[][] {{3, 0}, {-1, 0}, {0, 6}, {0, -1}}) t.dueIdle("tricks", () -> t.sale.tricks(no[0], no[1]), -4);
        t.minutes(8);
        t.dueIdle("who has coughed", () -> t.sale.tricks(2, 0), -4);
        // 0 can wait for 5 minutes: 1 has to lose 2 of their patience, and 2 has to lose 4.
        Bench u = new Bench("22 tricks").sale("sale 60;bidder 50 6;bidder 9 7;bidder 9 9;lot;worth 0 0 50;worth 1 0 50;worth 2 0 50;"
            + "trick 1 1;trick 2 2;trick 3 4", 1).sit(0, 0, 0);
        u.sale.bell(0);
        int[] want = {5, -2, 1, 2, -2, -2};
        for (int k = 0; k < 6; k++) { int w = k; u.dueIdle("tricks(0, " + k + ")", () -> u.sale.tricks(0, w), want[k]); }
        u.sale.play(0, 1, 2);
        u.sale.play(0, 1, 0);
        u.sale.play(0, 2, 0);
        // Patience 6, 2 and 8 is left: 2 has to lose 3 more, by the trick for 3.
        int[] later = {3, -2, NONE, 2, -2, -2};
        for (int k = 0; k < 6; k++) { int w = k; u.dueIdle("tricks(0, " + k + ") later", () -> u.sale.tricks(0, w), later[k]); }
    }

    private static void ring() {
        Bench t = inRoom("23 ring");
        int[][] want = {{3, 0, 13}, {3, 1, 1}, {5, 0, -9}, {5, 1, 0}, {7, 0, 30}, {7, 1, 1}, {6, 0, 0}, {6, 1, 1}};
        for (int[] w : want) t.dueIdle("ring(" + w[0] + ", " + w[1] + ")", () -> t.sale.ring(w[0], w[1]), w[2]);
        for (int[] no : new int[][] {{0, 0}, {1, 0}, {9, 0}, {-1, 0}, {Integer.MIN_VALUE, 0}, {3, 2}, {3, -1}}) {
            t.dueIdle("ring", () -> t.sale.ring(no[0], no[1]), -1000);
        }
        t.minutes(8);
        t.dueIdle("with one who has coughed", () -> t.sale.ring(7, 0), -1000);
        // By a rule 0 overpays: shares of what is below 0 go downwards.
        Bench u = new Bench("23 ring at a loss").sale("sale 60;bidder 99 60;bidder 99 60;bidder 99 4;lot;worth 0 0 1", 1).sit(0, 0, 0);
        u.rule("speak 0", 0);
        u.sale.force(0);
        u.sale.bell(0);
        u.due("less", u.sale.ring(3, 0), -3);
        u.due("it does not hold", u.sale.ring(3, 1), 0);
        // With it 10 - 1, 4 each; without it 10 - 5 for 0. Of 9 it is 4 each, and 9 - 5 for 0.
        for (int worth = 9; worth <= 10; worth++) {
            Bench w = new Bench("23 ring by the skin of its teeth");
            w.sale("sale 60;bidder 99 60;bidder 99 5;lot;worth 0 0 " + worth + ";worth 1 0 8", 1).sit(0, 0);
            w.sale.bell(0);
            w.due("more", w.sale.ring(3, 0), 4);
            w.due("holds", w.sale.ring(3, 1), worth == 9 ? 1 : 0);
        }
        // Of two to whom it is worth the same the first one stays, who coughs at once: nobody has it.
        Bench k = new Bench("23 ring of equals").sale("sale 60;bidder 99 1;bidder 99 60;lot;worth 0 0 20;worth 1 0 20", 1).sit(0, 0);
        k.sale.bell(0);
        k.due("less", k.sale.ring(3, 0), -19);
        Bench v = new Bench("23 ring of two rooms").sale("sale 60;bidder 9 9;bidder 9 9;bidder 9 9;bidder 9 9;lot;lot", 2).sit(0, 0, 1, 1);
        v.sale.bell(0);
        v.sale.bell(1);
        v.dueIdle("ring", () -> v.sale.ring(5, 0), -1000);
        v.dueIdle("ring", () -> v.sale.ring(12, 0), 0);
    }

    private static void breath() {
        Bench t = inRoom("24 breath");
        t.dueIdle("breath(0)", () -> t.sale.breath(0), 22);
        t.dueIdle("breath(1)", () -> t.sale.breath(1), -2);
        t.dueIdle("breath(2)", () -> t.sale.breath(2), 32);
        t.dueIdle("breath(3)", () -> t.sale.breath(3), NONE);
        t.dueIdle("breath(-1)", () -> t.sale.breath(-1), NONE);
        // The other one coughs in the 299th minute, or in the 300th, when no more patience can be had.
        for (int other = 299; other <= 300; other++) {
            Bench u = new Bench("24 the longest breath").sale("sale 300;bidder 999 1;bidder 999 " + other + ";lot;worth 0 0 300;worth 1 0 300", 1).sit(0, 0);
            u.sale.bell(0);
            u.dueIdle("breath", () -> u.sale.breath(0), other == 299 ? 300 : -2);
        }
        t.minutes(8);
        t.dueIdle("breath(2) later", () -> t.sale.breath(2), NONE);
        t.dueIdle("breath(0) later", () -> t.sale.breath(0), 14);
    }

    private static void log() {
        Bench t = three("25 log");
        for (int[] no : new int[][] {{2, 0, 0}, {-2, 0, 0}, {0, 3, 0}, {0, -2, 0}, {0, 0, -1}, {0, 0, 1000}, {0, NONE, -1}, {0, NONE, 1000}}) {
            t.dueIdle("log", () -> t.sale.log(no[0], no[1], no[2]), -2);
        }
        for (int k = 1; k <= 10; k++) t.due("log", t.sale.log(k % 2, k % 3 == 0 ? NONE : 2, k == 1 ? 999 : 0), k);
        t.dueIdle("an eleventh", () -> t.sale.log(0, 0, 0), -2);
        t.due("none", t.sale.log(NONE, 9, -9), 0);
        t.due("logs", t.sale.count(11), 0);
    }

    private static void ruled() {
        Bench t = three("26 ruled");
        t.due("how many", t.sale.ruled(0), 1);
        t.due("none at all", t.sale.ruled(1), NONE);
        t.rule("speak 1", 0).rule("speak 1 if bidder = 0", 1).rule("speak 1 if bidder = 0 and minute = 0", 2);
        t.due("how many", t.sale.ruled(0), 4);
        // Without a rule 0 has room 0 for 21; by 0 nobody; by 1 and 2 1 has it for 8.
        t.sale.log(0, 1, 8);
        t.dueIdle("how many", () -> t.sale.ruled(0), 2);
        t.dueIdle("first", () -> t.sale.ruled(1), 1);
        t.sale.log(0, NONE, 8);
        t.due("how many", t.sale.ruled(0), 0);
        t.due("no such", t.sale.ruled(1), -2);
        t.sale.log(NONE, 0, 0);
        t.sale.log(0, NONE, 77);
        t.due("how many", t.sale.ruled(0), 1);
        t.due("first", t.sale.ruled(1), 0);
        t.sale.log(NONE, 0, 0);
        t.sale.log(0, 0, 21);
        t.sit(0, NONE, 1);
        t.sale.bell(0);
        t.due("all as the text told it", t.sale.ruled(1), NONE);
        t.sale.log(0, 0, 20);
        t.due("other coins", t.sale.ruled(0), 0);
        t.dueIdle("ruled(2)", () -> t.sale.ruled(2), -3);
        t.dueIdle("ruled(-1)", () -> t.sale.ruled(-1), -3);
    }

    private static void look() {
        Bench t = three("27 look");
        t.due("the lot", t.sale.look(0), 0);
        t.due("how many", t.sale.look(1), 1);
        t.rule("speak 1", 0).rule("speak 1 if lot = 1 and bidder = 0", 1).rule("speak 1 if lot = 1 and bidder = 1", 2);
        // Room 0: by none 0 for 21; by 0 nobody; by 1 and 2 both the same. Room 1: 1 for 5 by none; nobody; 1 for 8; 0 for 8.
        t.dueIdle("the lot", () -> t.sale.look(0), 1);
        t.dueIdle("how many", () -> t.sale.look(1), 1);
        t.sale.log(1, 2, 9);
        t.due("no rule is so", t.sale.look(0), -2);
        t.due("no rule is so", t.sale.look(1), -2);
        t.dueIdle("look(2)", () -> t.sale.look(2), NONE);
        t.dueIdle("look(-1)", () -> t.sale.look(-1), NONE);
        t.sale("sale 9;bidder 1 1", 0);
        t.due("no lots", t.sale.look(0), -2);
        t.due("no lots", t.sale.look(1), -2);
    }

    private static void seed() {
        Bench t = new Bench("28 seed");
        t.due("seed", t.sale.seed(Integer.MAX_VALUE), 0);
        t.due("seed", t.sale.seed(9), Integer.MAX_VALUE);
        t.dueIdle("seed(-1)", () -> t.sale.seed(-1), NONE);
        t.dueIdle("seed(least)", () -> t.sale.seed(Integer.MIN_VALUE), NONE);
        t.due("x", t.sale.count(13), 9);
        t.due("seed(0)", t.sale.seed(0), 9);
        t.due("x", t.sale.count(13), 0);
    }

    private static void coughs() {
        Bench t = inRoom("29 coughs");
        // All cough at once by p = 100, nobody by p = 0.
        t.dueIdle("all cough", () -> t.sale.coughs(10, 60, 100, 0), 0);
        t.dueIdle("nobody coughs", () -> t.sale.coughs(10, 60, 0, 0), 10);
        t.dueIdle("nobody coughs", () -> t.sale.coughs(10, 60, 0, 1), 210);
        t.dueIdle("too early", () -> t.sale.coughs(10, 20, 0, 0), 0);
        // From 0: the draws are 0, 21468, 9988, 22117, 3498, 16927 (mod 100: 0, 68, 88, 17, 98, 27).
        t.dueIdle("0 coughs at once", () -> t.sale.coughs(1, 1, 1, 0), 0);
        t.dueIdle("0, then 1 coughs", () -> t.sale.coughs(1, 2, 18, 0), 1);
        t.dueIdle("0, then 1 coughs", () -> t.sale.coughs(1, 2, 18, 1), 2);
        t.dueIdle("0 and 1 cough", () -> t.sale.coughs(1, 1, 69, 0), 1);
        t.dueIdle("the second time 0 coughs alone", () -> t.sale.coughs(2, 1, 69, 0), 2);
        t.sale.seed(5);
        t.due("x stays", t.sale.count(13), 5);
        int[][] no = {{0, 1, 1, 0}, {11, 1, 1, 0}, {1, 0, 1, 0}, {1, 61, 1, 0}, {1, 1, -1, 0}, {1, 1, 101, 0}, {1, 1, 1, 2}, {1, 1, 1, -1}};
        for (int[] w : no) t.dueIdle("coughs", () -> t.sale.coughs(w[0], w[1], w[2], w[3]), NONE);
        t.minutes(21);
        t.dueIdle("what was got before", () -> t.sale.coughs(1, 1, 0, 0), 0);
        t.dueIdle("what was paid before", () -> t.sale.coughs(1, 1, 0, 1), 0);
    }

    private static void count() {
        Bench t = inRoom("30 count");
        t.sit(NONE, NONE, NONE);
        t.rule("speak 0", 0);
        t.sale.log(0, 0, 0);
        t.sale.seed(8);
        t.minutes(8);
        int[] want = {60, 3, 2, 2, 1, NONE, 8, 3, 1, 0, 0, 1, 12, 8, 0};
        for (int k = 0; k < 15; k++) t.due("count(" + k + ")", t.sale.count(k), want[k]);
        t.minutes(13);
        t.sale.force(0);
        t.sale.feed(1, 1, 1, 1, 1);
        int[] later = {60, 3, 2, 2, 1, 0, 21, 0, 0, 1, 21, 1, 20, 8, 20};
        for (int k = 0; k < 15; k++) t.due("count(" + k + ") later", t.sale.count(k), later[k]);
        t.due("count(15)", t.sale.count(15), NONE);
        t.due("count(-1)", t.sale.count(-1), NONE);
    }

    private static void images() {
        Bench t = inRoom("31 image, 32 back");
        t.rule("speak 1 if minute > 2", 0);
        t.sale.force(0);
        t.sale.seed(8);
        t.sale.log(0, 0, 5);
        t.minutes(2);
        for (int no : new int[] {-1, 4}) {
            t.dueIdle("image", () -> t.sale.image(no), NONE);
            t.dueIdle("back", () -> t.sale.back(no), NONE);
        }
        t.dueIdle("never made", () -> t.sale.back(3), NONE);
        t.dueIdle("image", () -> t.sale.image(3), 2);
        int[] then = t.seen();
        t.rule("speak 5", 1);
        t.sale("sale 7;lot;lot;lot", 3);
        t.sale.force(1);
        t.sale.seed(11);
        t.dueIdle("another image", () -> t.sale.image(0), 0);
        t.sale.feed(1, 1, 1, 1, 1);
        t.due("back", t.sale.back(3), 2);
        t.due("nothing to undo", t.sale.undo(), NONE);
        int[] now = t.seen();
        for (int k = 0; k < then.length; k++) {
            int want = k == 4 ? 2 : k == 12 ? 0 : k == 14 ? 20 : then[k];
            t.due("seen " + k, now[k], want);
        }
        t.due("logs are back", t.sale.ruled(0), 0);
        logsComeBack();
        t.minutes(1);
        t.due("back again", t.sale.back(3), 2);
        t.due("the other one", t.sale.back(0), 0);
        t.due("longest", t.sale.count(0), 7);
        t.due("in force", t.sale.count(5), 1);
        t.due("x", t.sale.count(13), 11);
        Bench u = new Bench("31 image of nothing");
        u.due("image", u.sale.image(1), 0);
        u.sale(THREE, 2);
        u.due("back", u.sale.back(1), 0);
        u.due("no sale", u.sale.seats(0), -1000);
        u.due("no bidders", u.sale.count(1), 0);
    }

    private static void logsComeBack() {
        Bench t = three("32 logs come back");
        t.sale.log(0, 0, 21);
        t.sale.image(2);
        for (int[] other : new int[][] {{1, 0, 21}, {0, 1, 21}, {0, 0, 20}}) {
            t.sale.log(NONE, 0, 0);
            t.sale.log(other[0], other[1], other[2]);
            t.due("another log", t.sale.ruled(0), 0);
            t.sale.back(2);
            t.due("the log that was", t.sale.ruled(0), 1);
        }
    }

    public static void main(String[] args) {
        newObject();
        feed();
        end();
        sale();
        saleFaults();
        rule();
        ruleFaults();
        ruleWords();
        bestOfTheWorthless();
        force();
        bidder();
        lot();
        worthAndTrick();
        minute();
        sit();
        bell();
        play();
        fire();
        undo();
        ahead();
        ends();
        hold();
        rests();
        seats();
        tricks();
        ring();
        breath();
        log();
        ruled();
        look();
        seed();
        coughs();
        count();
        images();
        Bench.close("Promises");
    }
}
