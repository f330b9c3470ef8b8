import java.lang.reflect.Field;
import java.util.Arrays;

/** Each sentence on minutes and acts that names a boundary case, with a test of its own: the sentence is the test's name. */
public final class ActBounds {
    private static final int NONE = -1;
    private static final int LEAST = Integer.MIN_VALUE;
    private static final int MOST = Integer.MAX_VALUE;
    /** By this rule nobody speaks but by a cough. */
    private static final String SILENCE = "speak 0";

    private static Bench told(String sentence, String sale, int lots) { return new Bench(sentence).sale(sale, lots); }

    private static Bench silentRule(Bench t) {
        t.rule(SILENCE, 0);
        t.sale.force(0);
        return t;
    }

    private static void dueRow(Bench t, String what, int[] got, int... want) {
        for (int k = 0; k < want.length; k++) t.due(what + " " + k, got[k], want[k]);
    }

    private static int[] bidderRow(Bench t, int bidder) {
        int[] row = new int[7];
        for (int k = 0; k < 7; k++) row[k] = t.sale.bidder(bidder, k);
        return row;
    }

    private static int[] lotRow(Bench t, int lot) {
        int[] row = new int[6];
        for (int k = 0; k < 6; k++) row[k] = t.sale.lot(lot, k);
        return row;
    }

    // ---- what a rule says -----------------------------------------------------------------------------------------

    /** Two sit by a lot, neither of whom coughs: does 0 speak by the rule? */
    private static void says(String sentence, String rule, boolean speaks) {
        Bench t = told(sentence + ": " + rule, "sale 9;bidder 50 60;bidder 70 80;lot;worth 0 0 33;worth 1 0 44", 1).sit(0, 0);
        t.rule("speak 0 if bidder=1;" + rule, 0);
        t.sale.force(0);
        t.sale.bell(0);
        t.due("minute", t.sale.minute(), speaks ? 1 : 0);
    }

    private static void sumAboveZero() {
        String name = "speaks, if the SUM is above 0";
        says(name, "speak 1", true);
        says(name, "speak 0", false);
        says(name, "speak 1-1", false);
        says(name, "speak 1-2", false);
        says(name, "speak 99999", true);
        says(name, "speak 2-1", true);
    }

    private static void firstClause() {
        String name = "of its first CLAUSE without a TEST, or whose TEST holds (0 without)";
        says(name, "speak 0;speak 1", false);
        says(name, "speak 1;speak 0", true);
        says(name, "speak 0 if 1=1;speak 1", false);
        says(name, "speak 0 if 1=2;speak 1", true);
        says(name, "speak 1 if 1=2;speak 0 if 1=1;speak 1", false);
        says(name, "speak 1 if 1=2", false);
        says(name, "speak 1 if 1=2;".repeat(10) + "speak 1 if 1=1", true);
        says(name, "speak 1 if 1=2;".repeat(10) + "speak 1 if 1=2", false);
    }

    private static void signs() {
        String[] signs = {"<", "<=", "=", ">=", ">"};
        boolean[][] want = {{true, false, false}, {true, true, false}, {false, true, false}, {false, true, true}, {false, false, true}};
        for (int s = 0; s < 5; s++) {
            for (int k = 0; k < 3; k++) says("SIGN one of < <= = >= >", "speak 1 if " + (k + 1) + signs[s] + "2", want[s][k]);
        }
    }

    private static String fact(boolean holds) { return holds ? "1=1" : "1=2"; }

    private static void saysIf(String test, boolean holds) { says("TEST: PART { or PART }. PART: FACT { and FACT }", "speak 6 if " + test, holds); }

    /** All ways in which two or three facts hold or do not. */
    private static void truth() {
        for (int k = 0; k < 8; k++) {
            boolean x = (k & 1) != 0;
            boolean y = (k & 2) != 0;
            boolean z = (k & 4) != 0;
            String a = fact(x);
            String b = fact(y);
            String c = fact(z);
            saysIf(a + " and " + b, x && y);
            saysIf(a + " or " + b, x || y);
            saysIf("not " + a, !x);
            saysIf("not not " + a, x);
            saysIf("[" + a + "]", x);
            saysIf(a + " or " + b + " and " + c, x || y && z);
            saysIf(a + " and " + b + " or " + c, x && y || z);
            saysIf("[" + a + " or " + b + "] and " + c, (x || y) && z);
            saysIf(a + " and [" + b + " or " + c + "]", x && (y || z));
            saysIf(a + " and " + b + " and " + c, x && y && z);
            saysIf(a + " or " + b + " or " + c, x || y || z);
            saysIf("not " + a + " and " + b, !x && y);
            saysIf("not " + a + " or " + b, !x || y);
            saysIf("not [" + a + " and " + b + "]", !(x && y));
            saysIf("not [" + a + " or " + b + "] or " + c, !(x || y) || z);
            saysIf(a + " and not " + b + " or not not " + c, x && !y || z);
            saysIf(a + " or not [" + b + " and not " + c + "] and " + b, x || !(y && !z) && y);
        }
    }

    private static void ruleBehindAFault() {
        String[] faulty = {"speak 1 if 1=1 and ", "speak 1 if 1=2 or 1=1 and ", "speak 1 if [1=1 or 1=2 and ", "speak 1 if not [not 1=1 or ", "speak 5;"};
        for (String text : faulty) {
            Bench t = told("a RULE behind one with a FAULT: " + text, "sale 9;bidder 9 9;bidder 9 9;lot", 1).sit(0, 0);
            t.ruleFault(text + "x", text.length(), 0);
            t.rule("speak 6 if [bidder=0] and not[bidder=1]", 0);
            t.sale.force(0);
            t.sale.bell(0);
            t.due("minute", t.sale.minute(), 1);
        }
    }

    private static void division() {
        String name = "/ is towards 0, % its rest, both 0 by 0";
        // This is 2 to the 63rd, below 0 in 64 bits: the only way to a number below 0 ahead of a / or %.
        String low = "32768*65536*65536*65536";
        for (String fact : new String[] {"7/2=3", "7%2=1", "6/7=0", "6%7=6", "7/0=0", "7%0=0", "0/0=0", "0%0=0", "0/7=0", "5/1=5", "5%1=0",
            low + "/0=0", low + "%0=0", low + "/3*3-2=" + low, low + "%3+2=0", low + "/1=" + low}) {
            says(name, "speak 1 if " + fact, true);
        }
    }

    private static void sixtyFourBits() {
        String name = "all goes round in 64 bits";
        String low = "32768*65536*65536*65536";
        says(name, "speak " + low, false);
        says(name, "speak " + low + "-1", true);
        says(name, "speak 0-1+" + low, true);
        says(name, "speak 0-" + low, false);
        says(name, "speak 1 if 65536*65536*65536*65536=0", true);
        says(name, "speak 1 if " + low + "+" + low + "=0", true);
        says(name, "speak 65536*65536", true);
        says(name, "speak 32768*65536", true);
    }

    private static void words() {
        String name = "WORDS at the first minute";
        for (String fact : new String[] {"bidder=0", "lot=0", "worth=33", "purse=50", "patience=60", "minute=0", "others=1", "tricked=0", "best=44",
            "rooms=1"}) {
            says(name, "speak 1 if " + fact, true);
            says(name, "speak 1 if not " + fact, false);
        }
        Bench t = told("others, best, rooms of many", "sale 9" + ";bidder 9 9".repeat(5) + ";lot;lot;worth 3 0 300;worth 4 0 8", 2);
        t.rule("speak 1 if others=4 and best=300;speak 1 if others=4 and best=8", 0);
        t.sale.force(0);
        t.sit(0, 0, 0, 0, 0);
        t.sale.bell(0);
        t.due("five speak", t.sale.minute(), 31);
        Bench u = told("best: of others who are SILENT there; 0", "sale 9" + ";bidder 9 9".repeat(4) + ";lot;lot;worth 2 0 99;worth 3 1 99", 2);
        u.rule("speak 1 if best=0", 0);
        u.sale.force(0);
        u.sit(0, 0, 1, 1);
        u.sale.bell(1);
        u.sale.bell(0);
        // Room 0 is worth something to 2 alone, who sits elsewhere; room 1 to 3 alone, who is no other one to themselves.
        u.due("0, 1 and 3", u.sale.minute(), 3 + 8);
    }

    // ---- a minute -------------------------------------------------------------------------------------------------

    private static void worthGoneBy() {
        for (int worth = 0; worth <= 3; worth++) {
            Bench t = told("without a RULE, if as many minutes as the LOT is WORTH to them have gone by: " + worth,
                "sale 9;bidder 99 99;bidder 99 99;lot;worth 0 0 " + worth + ";worth 1 0 300", 1).sit(0, 0);
            t.sale.bell(0);
            for (int k = 0; k < worth; k++) t.due("minute", t.sale.minute(), 0);
            t.due("the last minute", t.sale.minute(), 1);
            dueRow(t, "lot", lotRow(t, 0), 2, worth + 1, 1, worth + 1, 0, 0);
            t.due("who speaks in (1) has no PATIENCE less", t.sale.bidder(0, 1), 99 - worth);
            t.due("who does not has", t.sale.bidder(1, 1), 99 - worth - 1);
        }
    }

    private static void purseGoneBy() {
        for (int coins = 0; coins <= 3; coins++) {
            Bench t = told("or as many as their PURSE has coins: " + coins,
                "sale 9;bidder " + coins + " 99;bidder 99 99;lot;worth 0 0 300;worth 1 0 300", 1).sit(0, 0);
            t.sale.bell(0);
            for (int k = 0; k < coins; k++) t.due("minute", t.sale.minute(), 0);
            t.due("the last minute", t.sale.minute(), 1);
            t.due("purse stays", t.sale.bidder(0, 0), coins);
        }
    }

    private static void sinceItsBell() {
        Bench t = told("since its bell", "sale 9" + ";bidder 99 99".repeat(4) + ";lot;lot;worth 0 0 9;worth 1 0 9;worth 2 1 2;worth 3 1 9", 2);
        t.sit(0, 0, 1, 1);
        t.sale.bell(0);
        t.minutes(3);
        t.sale.bell(1);
        t.due("4th", t.sale.minute(), 0);
        t.due("5th", t.sale.minute(), 0);
        t.due("6th", t.sale.minute(), 4);
        dueRow(t, "lot 1", lotRow(t, 1), 2, 3, 3, 3, 0, 0);
        dueRow(t, "lot 0", lotRow(t, 0), 1, 6, NONE, 0, 3, 3);
    }

    private static void patienceLess() {
        for (int patience = 1; patience <= 3; patience++) {
            Bench t = silentRule(told("1 PATIENCE less; who has none then speaks, too (a cough): " + patience,
                "sale 9;bidder 9 " + patience + ";bidder 9 99;bidder 9 99;lot", 1)).sit(0, 0, 0);
            t.sale.bell(0);
            for (int k = 1; k < patience; k++) t.due("minute", t.sale.minute(), 0);
            t.due("one left", t.sale.bidder(0, 1), 1);
            t.due("a cough", t.sale.minute(), 1);
            t.due("none left", t.sale.bidder(0, 1), 0);
            t.due("no longer silent", t.sale.bidder(0, 3), 0);
            t.due("sits there", t.sale.bidder(0, 2), 0);
            t.minutes(2);
            t.due("who has spoken has no PATIENCE less", t.sale.bidder(0, 1), 0);
        }
    }

    private static void noPatienceAtAll() {
        Bench t = silentRule(told("1 PATIENCE less, if they have any", "sale 9;bidder 9 1;bidder 9 9;bidder 9 9;lot", 1)).sit(0, 0, 0);
        t.sale.bell(0);
        t.sale.minute();
        t.sale.fire(0);
        t.due("bell", t.sale.bell(0), 3);
        t.due("a cough", t.sale.minute(), 1);
        t.due("not below 0", t.sale.bidder(0, 1), 0);
    }

    private static void allTheyHave() {
        for (int coins = 0; coins <= 5; coins++) {
            Bench t = silentRule(told("for as many coins as minutes, or all they have if that is less: " + coins,
                "sale 9;bidder " + coins + " 99;bidder 9 3;lot;worth 0 0 2", 1)).sit(0, 0);
            t.sale.bell(0);
            t.minutes(3);
            int paid = Math.min(3, coins);
            dueRow(t, "lot", lotRow(t, 0), 2, 3, 0, paid, 0, 0);
            dueRow(t, "bidder", bidderRow(t, 0), coins - paid, 96, NONE, 0, 0, 1, 2 - paid);
            t.due("coins PAID", t.sale.count(10), paid);
        }
    }

    private static void longest() {
        for (int longest : new int[] {1, 2, 300}) {
            Bench t = silentRule(told("or has it gone on LONGEST minutes, it is over, and nobody has it: " + longest,
                "sale " + longest + ";bidder 9 300;bidder 9 300;bidder 9 300;lot", 1)).sit(0, 0, 0);
            t.sale.bell(0);
            // At 300 all cough in the last minute: nobody is left, too.
            for (int k = 1; k < longest; k++) t.due("minute", t.sale.minute(), 0);
            t.due("goes on", t.sale.lot(0, 0), 1);
            t.due("last minute", t.sale.minute(), longest == 300 ? 7 : 0);
            dueRow(t, "lot", lotRow(t, 0), 2, longest, NONE, 0, 0, 0);
            t.due("nobody is silent", t.sale.count(7), 0);
            t.due("purse", t.sale.bidder(0, 0), 9);
        }
    }

    private static void oneLeftInTheLastMinute() {
        Bench t = silentRule(told("is one left SILENT, they have it, in minute LONGEST, too", "sale 3;bidder 9 3;bidder 9 9;lot", 1)).sit(0, 0);
        t.sale.bell(0);
        t.minutes(2);
        t.due("a cough", t.sale.minute(), 1);
        dueRow(t, "lot", lotRow(t, 0), 2, 3, 1, 3, 0, 0);
    }

    private static void nobodyLeft() {
        Bench t = silentRule(told("is nobody left, it is over, and nobody has it", "sale 9;bidder 9 2;bidder 9 2;lot", 1)).sit(0, 0);
        t.sale.bell(0);
        t.due("1st", t.sale.minute(), 0);
        t.due("2nd", t.sale.minute(), 3);
        dueRow(t, "lot", lotRow(t, 0), 2, 2, NONE, 0, 0, 0);
        t.due("purse", t.sale.bidder(0, 0), 9);
    }

    private static void whoSatThere() {
        Bench t = silentRule(told("who sat there sits nowhere then", "sale 9;bidder 9 1;bidder 9 1;bidder 9 2;bidder 9 9;bidder 9 9;lot;lot", 2));
        t.sit(0, 0, 0, 0, 1);
        t.sale.bell(0);
        t.due("two cough", t.sale.minute(), 3);
        t.due("and sit there", t.sale.lot(0, 4), 15);
        t.due("0 moves", t.sale.sit(0, 1), 0);
        t.due("a third one coughs", t.sale.minute(), 4);
        t.due("3 has it", t.sale.lot(0, 2), 3);
        t.due("nobody sits there", t.sale.lot(0, 4), 0);
        int[] seats = {1, NONE, NONE, NONE, 1};
        for (int b = 0; b < 5; b++) t.due("seat", t.sale.bidder(b, 2), seats[b]);
    }

    private static void oneWhollyAheadOfTheNext() {
        Bench t = told("LOTS that go on, by numbers, one wholly ahead of the next", "sale 9" + ";bidder 9 9".repeat(4) + ";lot;lot", 2);
        t.rule("speak 2-rooms if bidder%2=0;speak 0", 0);
        t.rule("speak 1 if bidder=0;speak 2-rooms if bidder=2;speak 0", 1);
        t.sit(0, 0, 1, 1);
        t.sale.bell(1);
        t.sale.bell(0);
        t.sale.force(0);
        t.due("both go on", t.sale.minute(), 0);
        t.sale.force(1);
        t.due("room 0 is over as room 1 begins", t.sale.minute(), 5);
        t.due("1 has room 0", t.sale.lot(0, 2), 1);
        t.due("3 has room 1", t.sale.lot(1, 2), 3);
        Bench u = told("by how all is as this LOT begins its MINUTE", "sale 9" + ";bidder 9 9".repeat(3) + ";lot", 1).sit(0, 0, 0);
        u.rule("speak 1 if others=2 and bidder<2", 0);
        u.sale.force(0);
        u.sale.bell(0);
        u.due("0 and 1 at once", u.sale.minute(), 3);
        u.due("2 has it", u.sale.lot(0, 2), 2);
    }

    /** No run of calls can wait so long, since patience ends: the minute is set from outside. */
    private static void setMinute(SilentSale sale, int minute) {
        try {
            Field state = SilentSale.class.getDeclaredField("state");
            state.setAccessible(true);
            Field minutes = state.get(sale).getClass().getDeclaredField("minutes");
            minutes.setAccessible(true);
            minutes.setInt(state.get(sale), minute);
        } catch (ReflectiveOperationException e) {
            throw new AssertionError(e);
        }
    }

    private static void minuteNineThousand() {
        Bench t = silentRule(told("9999 at most by hand; MINUTES that are asked go on beyond", "sale 9;bidder 9 5;bidder 9 9;lot", 1)).sit(0, 0);
        t.sale.bell(0);
        setMinute(t.sale, 9998);
        t.due("minute", t.sale.minute(), 0);
        t.due("the minute", t.sale.count(6), 9999);
        t.dueIdle("in minute 9999", t.sale::minute, NONE);
        t.dueIdle("ahead", () -> t.sale.ahead(0, 4, 0), 1);
        t.dueIdle("ends", () -> t.sale.ends(0, 0), 4);
        t.dueIdle("hold", () -> t.sale.hold(1, 0), 0);
        t.dueIdle("breath", () -> t.sale.breath(0), 9);
        t.dueIdle("coughs", () -> t.sale.coughs(1, 4, 0, 1), 5);
        t.dueIdle("image", () -> t.sale.image(0), 9999);
        t.due("undo", t.sale.undo(), 3);
        t.due("the minute", t.sale.count(6), 9998);
        t.due("back", t.sale.back(0), 9999);
        t.dueIdle("in minute 9999", t.sale::minute, NONE);
    }

    private static void noLotGoesOn() {
        Bench t = new Bench("NONE, and nothing happens, if no LOT goes on");
        t.dueIdle("without a sale", t.sale::minute, NONE);
        t.sale("sale 9;bidder 9 9;bidder 9 9;lot;lot", 2);
        t.dueIdle("nobody sits", t.sale::minute, NONE);
        t.sit(0, 0);
        t.dueIdle("no bell", t.sale::minute, NONE);
        t.sale.bell(0);
        t.due("goes on", t.sale.minute(), 3);
        t.dueIdle("over", t.sale::minute, NONE);
        t.sale.sit(0, 1);
        t.sale.bell(1);
        t.dueIdle("over at once", t.sale::minute, NONE);
        t.sale.undo();
        t.sale.sit(1, 1);
        t.sale.bell(1);
        t.sale.fire(1);
        t.dueIdle("after a fire", t.sale::minute, NONE);
    }

    // ---- sit ------------------------------------------------------------------------------------------------------

    private static Bench sitting(String sentence) {
        return silentRule(told(sentence, "sale 9;bidder 9 1;bidder 9 9;bidder 9 9;bidder 9 9;lot;lot;lot", 3));
    }

    private static void sitWithoutThese() {
        Bench t = sitting("SIT: -2, and nothing happens, without these");
        for (int bidder : new int[] {-1, 4, 5, 32, LEAST, MOST}) {
            for (int lot : new int[] {NONE, 0, 2}) t.dueIdle("bidder " + bidder, () -> t.sale.sit(bidder, lot), -2);
        }
        for (int lot : new int[] {-2, 3, 4, LEAST, MOST}) t.dueIdle("lot " + lot, () -> t.sale.sit(3, lot), -2);
        t.due("the last two", t.sale.sit(3, 2), NONE);
    }

    private static void sitSilent() {
        Bench t = sitting("SIT: a BIDDER who is not SILENT").sit(0, 0, 0);
        t.sale.bell(0);
        for (int lot : new int[] {NONE, 0, 1, 2}) t.dueIdle("who is silent", () -> t.sale.sit(1, lot), -2);
        t.sale.minute();
        t.due("who has coughed", t.sale.sit(0, 2), 0);
        t.due("who has coughed", t.sale.sit(0, NONE), 2);
        t.due("who never sat", t.sale.sit(3, 1), NONE);
    }

    private static void sitByAnother() {
        Bench t = sitting("SIT: by another LOT that has not begun, or by none");
        t.due("one", t.sale.sit(0, 0), NONE);
        t.dueIdle("the same", () -> t.sale.sit(0, 0), -2);
        t.due("another", t.sale.sit(0, 2), 0);
        t.dueIdle("the same", () -> t.sale.sit(0, 2), -2);
        t.due("none", t.sale.sit(0, NONE), 2);
        t.due("none from none", t.sale.sit(0, NONE), NONE);
        t.due("acts", t.sale.count(12), 4);
        t.sit(0, 0, 0);
        t.sale.bell(0);
        t.sale.minute();
        t.dueIdle("goes on", () -> t.sale.sit(3, 0), -2);
        t.dueIdle("goes on, where they sit", () -> t.sale.sit(0, 0), -2);
        t.sale.sit(3, 1);
        t.sale.bell(1);
        t.dueIdle("over", () -> t.sale.sit(3, 1), -2);
        t.dueIdle("over", () -> t.sale.sit(0, 1), -2);
        t.sale.fire(0);
        t.dueIdle("after a fire, the same", () -> t.sale.sit(0, 0), -2);
        t.due("after a fire, another one", t.sale.sit(3, 0), NONE);
    }

    // ---- bell -----------------------------------------------------------------------------------------------------

    private static void bellWithoutThese() {
        Bench t = sitting("BELL: NONE, and nothing happens, without these").sit(0, 0, 1, 2);
        for (int lot : new int[] {-1, -2, 3, 32, LEAST, MOST}) t.dueIdle("lot " + lot, () -> t.sale.bell(lot), NONE);
        t.due("the last", t.sale.bell(2), 1);
    }

    private static void bellNotBegun() {
        Bench t = sitting("BELL: a LOT that has not begun, by which one sits at least").sit(0, 0, 0);
        t.dueIdle("nobody sits", () -> t.sale.bell(1), NONE);
        t.due("three", t.sale.bell(0), 3);
        t.dueIdle("goes on", () -> t.sale.bell(0), NONE);
        t.sale.minute();
        t.sale.fire(0);
        t.due("after a fire", t.sale.bell(0), 3);
        dueRow(t, "lot", lotRow(t, 0), 1, 0, NONE, 0, 7, 7);
        t.minutes(9);
        dueRow(t, "lot", lotRow(t, 0), 2, 8, NONE, 0, 0, 0);
        t.dueIdle("over", () -> t.sale.bell(0), NONE);
    }

    private static void bellOfAll() {
        Bench t = told("BELL: how many are SILENT then", "sale 9" + ";bidder 9 9".repeat(5) + ";lot;lot;lot", 3).sit(2, 2, 2, 2, 2);
        t.due("five", t.sale.bell(2), 5);
        t.due("silent", t.sale.count(7), 31);
        t.due("goes on", t.sale.count(8), 4);
        t.due("minute", t.sale.count(6), 0);
    }

    private static void justOne() {
        Bench t = told("BELL: sits just one there, they have it for nothing, and it is over", "sale 9;bidder 0 1;bidder 9 9;lot;lot;worth 0 1 7", 2);
        t.sit(1, 0);
        t.due("bell", t.sale.bell(1), 1);
        dueRow(t, "lot", lotRow(t, 1), 2, 0, 0, 0, 0, 0);
        dueRow(t, "bidder", bidderRow(t, 0), 0, 1, NONE, 0, 0, 2, 7);
        t.due("over", t.sale.count(9), 2);
        t.due("the minute", t.sale.count(6), 0);
        t.due("undo", t.sale.undo(), 2);
        dueRow(t, "lot", lotRow(t, 1), 0, 0, NONE, 0, 1, 0);
    }

    // ---- play -----------------------------------------------------------------------------------------------------

    private static Bench playing(String sentence) {
        Bench t = told(sentence, "sale 9;bidder 4 5;bidder 5 6;bidder 0 7;bidder 5 9;lot;lot;trick 5 5;trick 0 6;trick 0 99", 2).sit(0, 0, 0);
        t.sale.bell(0);
        return t;
    }

    private static void playWithoutThese() {
        Bench t = playing("TRICK: NONE, and nothing happens, without these (unlike)");
        for (int no : new int[] {-1, 4, 5, 32, LEAST, MOST}) {
            t.dueIdle("one " + no, () -> t.sale.play(no, 1, 1), NONE);
            t.dueIdle("other " + no, () -> t.sale.play(1, no, 1), NONE);
        }
        for (int no : new int[] {-1, 3, LEAST, MOST}) t.dueIdle("trick " + no, () -> t.sale.play(3, 2, no), NONE);
        for (int b = 0; b < 4; b++) { int same = b; t.dueIdle("alike", () -> t.sale.play(same, same, 1), NONE); }
        t.due("play", t.sale.play(3, 2, 1), 1);
    }

    private static void playItsPrice() {
        Bench t = playing("TRICK: one who pays its PRICE");
        t.dueIdle("4 of 5", () -> t.sale.play(0, 1, 0), NONE);
        t.dueIdle("0 of 5", () -> t.sale.play(2, 1, 0), NONE);
        t.due("5 of 5", t.sale.play(1, 2, 0), 2);
        t.due("none left", t.sale.bidder(1, 0), 0);
        t.dueIdle("0 of 5", () -> t.sale.play(1, 2, 0), NONE);
        Bench u = told("TRICK: a PRICE of 0", "sale 9;bidder 0 9;bidder 9 9;lot;trick 0 1", 1).sit(0, 0);
        u.sale.bell(0);
        u.due("0 of 0", u.sale.play(0, 1, 0), 8);
        u.due("purse", u.sale.bidder(0, 0), 0);
        u.due("tricked", u.sale.bidder(1, 4), 1);
    }

    private static void playMorePatience() {
        Bench t = playing("TRICK: has more PATIENCE than its EFFECT");
        t.dueIdle("5 of 5", () -> t.sale.play(1, 0, 0), NONE);
        t.dueIdle("5 of 6", () -> t.sale.play(1, 0, 1), NONE);
        t.dueIdle("6 of 6", () -> t.sale.play(0, 1, 1), NONE);
        t.dueIdle("7 of 99", () -> t.sale.play(0, 2, 2), NONE);
        t.due("7 of 6", t.sale.play(0, 2, 1), 1);
        t.dueIdle("1 of 6", () -> t.sale.play(0, 2, 1), NONE);
        t.due("who has 1 coughs", t.sale.minute() & 4, 4);
    }

    private static void playOnTheSilent() {
        Bench t = silentRule(told("TRICK: on another one who is SILENT", "sale 9;bidder 9 9;bidder 9 3;bidder 9 9;bidder 9 9;lot;lot;trick 1 1", 2));
        t.dueIdle("sits nowhere", () -> t.sale.play(0, 1, 0), NONE);
        t.sit(0, 0, 0, 1);
        t.dueIdle("no bell", () -> t.sale.play(0, 1, 0), NONE);
        t.sale.bell(0);
        t.dueIdle("elsewhere", () -> t.sale.play(0, 3, 0), NONE);
        t.due("by one who sits elsewhere", t.sale.play(3, 1, 0), 2);
        t.sale.sit(3, NONE);
        t.due("by one who sits nowhere", t.sale.play(3, 0, 0), 8);
        t.minutes(2);
        t.dueIdle("has coughed", () -> t.sale.play(0, 1, 0), NONE);
        t.due("by one who has coughed", t.sale.play(1, 0, 0), 5);
        t.sale.fire(0);
        t.dueIdle("after a fire", () -> t.sale.play(1, 0, 0), NONE);
    }

    // ---- fire -----------------------------------------------------------------------------------------------------

    private static void fireGoesOn() {
        Bench t = sitting("FIRE: a LOT that goes on; NONE, and nothing happens, without these").sit(0, 0, 0, 1);
        t.dueIdle("not begun", () -> t.sale.fire(0), NONE);
        t.dueIdle("nobody sits", () -> t.sale.fire(2), NONE);
        t.sale.bell(1);
        t.dueIdle("over", () -> t.sale.fire(1), NONE);
        t.sale.bell(0);
        for (int lot : new int[] {-1, -2, 3, 32, LEAST, MOST}) t.dueIdle("lot " + lot, () -> t.sale.fire(lot), NONE);
        t.due("at once", t.sale.fire(0), 0);
        t.dueIdle("again", () -> t.sale.fire(0), NONE);
        t.sale.bell(0);
        t.minutes(7);
        t.due("after 7", t.sale.fire(0), 7);
    }

    private static void fireStillSits() {
        Bench t = sitting("FIRE: has not begun; who sits there still does").sit(0, 0, 0, 1);
        t.sale.bell(0);
        t.minutes(2);
        t.sale.fire(0);
        dueRow(t, "lot", lotRow(t, 0), 0, 0, NONE, 0, 7, 0);
        t.due("the minute", t.sale.count(6), 2);
        t.due("who has coughed", t.sale.bidder(0, 2), 0);
        t.due("patience", t.sale.bidder(1, 1), 7);
        t.due("silent", t.sale.bidder(1, 3), 0);
        t.due("may go", t.sale.sit(1, NONE), 0);
    }

    // ---- undo -----------------------------------------------------------------------------------------------------

    private static void lastTwenty() {
        for (int acts : new int[] {1, 19, 20, 21, 39, 40, 41, 65}) {
            Bench t = sitting("the last 20 can be UNDONE, the last first: of " + acts);
            for (int k = 0; k < acts; k++) t.due("sit", t.sale.sit(k % 4, k / 4 % 2 == 0 ? 2 : 0), k < 4 ? NONE : k / 4 % 2 == 0 ? 0 : 2);
            int many = Math.min(20, acts);
            t.due("acts", t.sale.count(12), many);
            for (int k = acts - 1; k >= acts - many; k--) {
                t.due("undo", t.sale.undo(), many - (acts - k));
                t.due("seat", t.sale.bidder(k % 4, 2), k < 4 ? NONE : k / 4 % 2 == 0 ? 0 : 2);
            }
            t.dueIdle("none can", t.sale::undo, NONE);
        }
    }

    private static void eachActUndone() {
        Bench t = silentRule(told("each of the ACTS can be UNDONE", "sale 9;bidder 9 2;bidder 9 9;bidder 9 9;lot;lot;trick 1 3", 2));
        int[][] seen = new int[9][];
        seen[0] = t.seen();
        t.sale.sit(0, 0);
        seen[1] = t.seen();
        t.sale.sit(1, 0);
        seen[2] = t.seen();
        t.sale.bell(0);
        seen[3] = t.seen();
        t.sale.play(2, 1, 0);
        seen[4] = t.seen();
        t.sale.minute();
        seen[5] = t.seen();
        t.sale.fire(0);
        t.due("undo of a fire", t.sale.undo(), 5);
        t.due("as it was", Arrays.equals(t.seen(), seen[5]) ? 1 : 0, 1);
        t.sale.minute();
        seen[6] = t.seen();
        t.sale.sit(2, 1);
        seen[7] = t.seen();
        t.sale.bell(1);
        seen[8] = t.seen();
        for (int k = 8; k > 0; k--) {
            t.due("acts", t.seen()[12], k);
            t.due("undo", t.sale.undo(), k - 1);
            t.due("as it was", Arrays.equals(t.seen(), seen[k - 1]) ? 1 : 0, 1);
        }
        t.dueIdle("none can", t.sale::undo, NONE);
    }

    private static void noneToUndo() {
        Bench t = new Bench("UNDO: NONE, and nothing happens: none can");
        t.dueIdle("without a sale", t.sale::undo, NONE);
        t.sale("sale 9;bidder 9 9;lot", 1).rule(SILENCE, 0);
        t.sale.force(0);
        t.sale.seed(5);
        t.sale.log(0, 0, 0);
        t.sale.image(0);
        t.dueIdle("no act", t.sale::undo, NONE);
        t.sale.sit(0, 0);
        t.due("one", t.sale.undo(), 0);
        t.dueIdle("no more", t.sale::undo, NONE);
        t.sale.sit(0, 0);
        t.sale.back(0);
        t.dueIdle("gone back", t.sale::undo, NONE);
        t.sale.sit(0, 0);
        t.sale("sale 9;bidder 9 9;lot", 1);
        t.dueIdle("another sale", t.sale::undo, NONE);
    }

    // ---- force, and what is told ----------------------------------------------------------------------------------

    private static void forceNoneSuch() {
        Bench t = new Bench("force: which was; -2, and nothing happens, if there is none such");
        t.dueIdle("none", () -> t.sale.force(NONE), NONE);
        t.dueIdle("no rules", () -> t.sale.force(0), -2);
        for (int k = 0; k < 6; k++) {
            int next = k + 1;
            t.rule("speak " + k, k);
            t.due("the last", t.sale.force(k), k - 1);
            for (int no : new int[] {next, -2, LEAST, MOST}) t.dueIdle("force " + no, () -> t.sale.force(no), -2);
        }
        t.dueIdle("the same", () -> t.sale.force(5), 5);
        t.due("none", t.sale.force(NONE), 5);
        t.due("first", t.sale.force(0), NONE);
    }

    private static void withoutThese() {
        Bench t = told("bidder: -1000; lot: -2; worth, trick: NONE without these", "sale 9;bidder 1 2;bidder 3 4;lot;lot;worth 1 1 7;trick 5 6;trick 7 8", 2);
        for (int no : new int[] {-1, 2, 3, 5, 32, LEAST, MOST}) {
            for (int k = 0; k < 7; k++) { int what = k; t.dueIdle("bidder", () -> t.sale.bidder(no, what), -1000); }
            for (int k = 0; k < 6; k++) { int what = k; t.dueIdle("lot", () -> t.sale.lot(no, what), -2); }
            t.dueIdle("worth", () -> t.sale.worth(no, 1), NONE);
            t.dueIdle("worth", () -> t.sale.worth(1, no), NONE);
            t.dueIdle("trick", () -> t.sale.trick(no, 0), NONE);
            t.dueIdle("trick", () -> t.sale.trick(1, no), NONE);
        }
        for (int no : new int[] {-1, 7, LEAST, MOST}) t.dueIdle("bidder", () -> t.sale.bidder(1, no), -1000);
        for (int no : new int[] {-1, 6, LEAST, MOST}) t.dueIdle("lot", () -> t.sale.lot(1, no), -2);
        t.due("the last bidder", t.sale.bidder(1, 1), 4);
        t.due("the last lot", t.sale.lot(1, 5), 0);
        t.due("the last two", t.sale.worth(1, 1), 7);
        t.due("the last trick", t.sale.trick(1, 1), 8);
    }

    private static void gain() {
        Bench t = silentRule(told("GAIN: what all LOTS they have are WORTH, less what they have PAID for these (not for TRICKS)",
            "sale 9;bidder 20 30;bidder 9 2;bidder 9 5;lot;lot;lot;worth 0 0 3;worth 0 1 1;worth 0 2 9;worth 1 0 8;trick 7 1", 3));
        t.sale.sit(0, 2);
        t.sale.bell(2);
        t.due("for nothing", t.sale.bidder(0, 6), 9);
        t.sit(0, 0);
        t.sale.bell(0);
        t.sale.play(0, 1, 0);
        t.minutes(1);
        t.due("3 for 1", t.sale.bidder(0, 6), 11);
        t.sale.sit(0, 1);
        t.sale.sit(2, 1);
        t.sale.bell(1);
        t.minutes(5);
        t.due("1 for 5", t.sale.bidder(0, 6), 7);
        t.due("all three", t.sale.bidder(0, 5), 7);
        t.due("purse", t.sale.bidder(0, 0), 20 - 7 - 1 - 5);
        t.due("coins PAID for LOTS", t.sale.count(10), 6);
        t.due("nothing of what others have", t.sale.bidder(1, 6), 0);
    }

    public static void main(String[] args) {
        sumAboveZero();
        firstClause();
        signs();
        truth();
        ruleBehindAFault();
        division();
        sixtyFourBits();
        words();
        worthGoneBy();
        purseGoneBy();
        sinceItsBell();
        patienceLess();
        noPatienceAtAll();
        allTheyHave();
        longest();
        oneLeftInTheLastMinute();
        nobodyLeft();
        whoSatThere();
        oneWhollyAheadOfTheNext();
        minuteNineThousand();
        noLotGoesOn();
        sitWithoutThese();
        sitSilent();
        sitByAnother();
        bellWithoutThese();
        bellNotBegun();
        bellOfAll();
        justOne();
        playWithoutThese();
        playItsPrice();
        playMorePatience();
        playOnTheSilent();
        fireGoesOn();
        fireStillSits();
        lastTwenty();
        eachActUndone();
        noneToUndo();
        forceNoneSuch();
        withoutThese();
        gain();
        Bench.close("ActBounds");
    }
}
