/** Each sentence on what is asked, on logs, draws and images that names a boundary case, with a test of its own. */
public final class QuestionBounds {
    private static final int NONE = -1;
    private static final int LEAST = Integer.MIN_VALUE;
    private static final int MOST = Integer.MAX_VALUE;

    private static Bench told(String sentence, String sale, int lots) { return new Bench(sentence).sale(sale, lots); }

    /** All of them by lot 0, whose bell has rung; a rule that is null stands for none. */
    private static Bench room(String sentence, String rule, String sale) {
        Bench t = new Bench(sentence);
        t.tape(sale);
        t.sale.sale();
        if (rule != null) {
            t.rule(rule, 0);
            t.sale.force(0);
        }
        for (int b = 0; b < t.sale.count(1); b++) t.sale.sit(b, 0);
        t.due("bell", t.sale.bell(0), t.sale.count(1));
        return t;
    }

    // ---- what is asked --------------------------------------------------------------------------------------------

    /** Every question that can be asked with small numbers, forwards or backwards. */
    private static int[] answers(SilentSale s, boolean backwards) {
        int[] all = new int[600];
        for (int k = 0; k < all.length; k++) {
            int at = backwards ? all.length - 1 - k : k;
            int what = at % 6;
            int who = at / 6 % 5;
            switch (at / 30) {
                case 0: all[at] = s.ahead(who, 5, what); break;
                case 1: all[at] = s.ends(who, what); break;
                case 2: all[at] = s.hold(who, what); break;
                case 3: all[at] = s.rests(who, (who + 1) % 5, 0, what); break;
                case 4: all[at] = s.seats(what); break;
                case 5: all[at] = s.tricks(who, what); break;
                case 6: all[at] = s.ring(3 << who, what); break;
                case 7: all[at] = s.breath(who); break;
                case 8: all[at] = s.ruled(what); break;
                case 9: all[at] = s.look(what); break;
                case 10: all[at] = s.coughs(3, 9, 20, what); break;
                case 11: all[at] = s.ahead(who, 300, what); break;
                default: all[at] = s.count(at % 15); break;
            }
        }
        return all;
    }

    private static void nothingChanges() {
        String text = "sale 40;bidder 99 50;bidder 99 20;bidder 30 22;bidder 60 31;bidder 44 44;lot;lot;lot;worth 0 0 30;worth 1 0 25;worth 2 0 29;"
            + "worth 3 1 20;worth 4 1 18;worth 0 2 9;trick 1 7;trick 2 5";
        for (int rule = NONE; rule < 2; rule++) {
            Bench t = told("by what is asked nothing changes: rule " + rule, text, 3).rule("speak minute/7*bidder", 0).rule("speak 1 if patience<others+rooms", 1);
            t.sit(0, 0, 0, 1, 1);
            t.sale.force(rule);
            t.sale.bell(0);
            t.sale.bell(1);
            t.sale.log(0, 0, 22);
            int[] seen = t.seen();
            int[] first = answers(t.sale, false);
            int[] again = answers(t.sale, true);
            for (int k = 0; k < first.length; k++) t.due("asked again " + k, again[k], first[k]);
            int[] now = t.seen();
            for (int k = 0; k < seen.length; k++) t.due("seen " + k, now[k], seen[k]);
            for (int lot = 0; lot < 2; lot++) {
                int ends = t.sale.ends(lot, 0);
                int who = t.sale.ends(lot, 1);
                t.sale.image(0);
                t.minutes(ends - 1);
                t.due("goes on as told", t.sale.lot(lot, 0), 1);
                t.minutes(1);
                t.due("is over as told", t.sale.lot(lot, 0), 2);
                t.due("had as told", t.sale.lot(lot, 2), who);
                t.sale.back(0);
            }
        }
    }

    private static void saleOfOneMinute() {
        Bench t = told("a SALE whose LONGEST is 1 is one", "sale 1;bidder 9 9;bidder 9 9;lot;worth 0 0 4", 1).sit(0, 0);
        t.sale.bell(0);
        t.dueIdle("ahead", () -> t.sale.ahead(0, 1, 1), 8);
        t.dueIdle("ends", () -> t.sale.ends(0, 0), 1);
        t.dueIdle("seats", () -> t.sale.seats(0), 3);
        t.dueIdle("ruled", () -> t.sale.ruled(0), 1);
        t.dueIdle("look", () -> t.sale.look(0), 0);
        t.dueIdle("coughs", () -> t.sale.coughs(1, 1, 0, 0), 1);
    }

    /** Five bidders and three lots, of which none goes on, then all that can. */
    private static void fullHouse() {
        Bench t = told("BIDDERS 0 to 4, LOTS 0 to 2: nobody is SILENT", "sale 9" + ";bidder 9 9".repeat(5) + ";lot;lot;lot;worth 4 2 7;worth 3 2 6", 3);
        for (int b = 0; b < 5; b++) {
            int who = b;
            t.dueIdle("hold", () -> t.sale.hold(who, 0), -1000);
            t.dueIdle("tricks", () -> t.sale.tricks(who, 0), -4);
            t.dueIdle("breath", () -> t.sale.breath(who), NONE);
            t.dueIdle("ring", () -> t.sale.ring(3 << who, 0), -1000);
        }
        t.sit(1, 1, 1, 2, 2);
        t.sale.bell(2);
        t.sale.bell(1);
        // 3 speaks in the 7th minute: 4 has lot 2 for 7.
        t.dueIdle("hold", () -> t.sale.hold(4, 0), 0);
        t.dueIdle("who", () -> t.sale.ends(2, 1), 4);
        t.dueIdle("breath", () -> t.sale.breath(4), 8);
        t.dueIdle("tricks", () -> t.sale.tricks(4, 4), NONE);
        t.dueIdle("tricks", () -> t.sale.tricks(4, 5), -2);
        t.dueIdle("ring", () -> t.sale.ring(24, 0), 6);
        // Without a rule who is to stay speaks at once, too, since it is worth nothing to them.
        t.dueIdle("ring of three", () -> t.sale.ring(7, 0), 0);
        t.dueIdle("ring of two rooms", () -> t.sale.ring(12, 0), -1000);
    }

    // ---- ahead ----------------------------------------------------------------------------------------------------

    private static void aheadMinutes() {
        Bench t = room("AHEAD n MINUTES (0 to 300)", "speak 0", "sale 300;bidder 999 300;bidder 999 300;lot;worth 0 0 300");
        int[][] want = {{0, 300}, {1, 299}, {299, 1}, {300, 0}};
        for (int[] w : want) t.dueIdle("ahead " + w[0], () -> t.sale.ahead(0, w[0], 1), w[1]);
        for (int no : new int[] {-1, 301, LEAST, MOST}) {
            for (int what = 0; what < 3; what++) { int w = what; t.dueIdle("ahead " + no, () -> t.sale.ahead(0, no, w), -1000); }
        }
    }

    private static void aheadWhoHasIt() {
        Bench t = room("AHEAD: who has a LOT (NONE: nobody); GAIN", null, "sale 300;bidder 999 300;bidder 999 300;lot;worth 0 0 297;worth 1 0 298");
        t.dueIdle("at 297", () -> t.sale.ahead(0, 297, 0), NONE);
        t.dueIdle("at 298", () -> t.sale.ahead(0, 298, 0), 1);
        t.dueIdle("at 297", () -> t.sale.ahead(1, 297, 2), 0);
        t.dueIdle("at 298", () -> t.sale.ahead(1, 298, 2), 0);
        t.dueIdle("patience", () -> t.sale.ahead(1, 300, 1), 2);
        Bench u = room("AHEAD: a GAIN below 0", "speak 0", "sale 9;bidder 9 9;bidder 9 5;lot;worth 0 0 1");
        u.dueIdle("at 4", () -> u.sale.ahead(0, 4, 2), 0);
        u.dueIdle("at 5", () -> u.sale.ahead(0, 5, 2), -4);
        u.dueIdle("of the other one", () -> u.sale.ahead(1, 300, 2), 0);
        u.minutes(5);
        u.dueIdle("when it is over", () -> u.sale.ahead(0, 0, 2), -4);
        u.dueIdle("when it is over", () -> u.sale.ahead(0, 300, 0), 0);
    }

    private static void aheadWithoutThese() {
        Bench n = new Bench("AHEAD: -1000 without a SALE");
        for (int what = 0; what < 3; what++) { int w = what; n.dueIdle("ahead", () -> n.sale.ahead(0, 0, w), -1000); }
        Bench t = told("AHEAD: -1000 without these", "sale 9;bidder 1 1;bidder 1 1;bidder 1 1;lot;lot", 2);
        for (int no : new int[] {-1, 2, 3, 32, LEAST, MOST}) t.dueIdle("lot " + no, () -> t.sale.ahead(no, 1, 0), -1000);
        for (int no : new int[] {-1, 3, 5, 32, LEAST, MOST}) {
            t.dueIdle("bidder " + no, () -> t.sale.ahead(no, 1, 1), -1000);
            t.dueIdle("bidder " + no, () -> t.sale.ahead(no, 1, 2), -1000);
        }
        for (int no : new int[] {-1, 3, LEAST, MOST}) t.dueIdle("what " + no, () -> t.sale.ahead(0, 1, no), -1000);
        t.dueIdle("the last lot", () -> t.sale.ahead(1, 1, 0), NONE);
        t.dueIdle("the last bidder", () -> t.sale.ahead(2, 1, 1), 1);
    }

    // ---- ends -----------------------------------------------------------------------------------------------------

    private static void endsInSoManyMinutes() {
        Bench t = room("ENDS: in how many MINUTES it is over; who has it; what is PAID", "speak 0", "sale 300;bidder 999 300;bidder 999 300;lot");
        int[] want = {300, NONE, 0};
        for (int k = 0; k < 3; k++) { int w = k; t.dueIdle("the longest", () -> t.sale.ends(0, w), want[k]); }
        t.minutes(299);
        int[] last = {1, NONE, 0};
        for (int k = 0; k < 3; k++) { int w = k; t.dueIdle("the last minute", () -> t.sale.ends(0, w), last[k]); }
        t.minutes(1);
        for (int k = 0; k < 3; k++) { int w = k; t.dueIdle("over", () -> t.sale.ends(0, w), -2); }
        Bench u = room("ENDS: what is PAID, all they have", "speak 0", "sale 9;bidder 2 9;bidder 9 3;lot");
        int[] paid = {3, 0, 2};
        for (int k = 0; k < 3; k++) { int w = k; u.dueIdle("ends", () -> u.sale.ends(0, w), paid[k]); }
    }

    private static void endsOfALotThatGoesOn() {
        Bench t = told("ENDS of a LOT that goes on: -2 without these", "sale 9;bidder 9 9;bidder 9 9;lot;lot", 2);
        t.dueIdle("not begun", () -> t.sale.ends(0, 0), -2);
        t.sit(0, 1);
        t.sale.bell(0);
        t.dueIdle("over", () -> t.sale.ends(0, 0), -2);
        t.sale.sit(0, 1);
        t.dueIdle("no bell", () -> t.sale.ends(1, 0), -2);
        t.sale.bell(1);
        t.dueIdle("goes on", () -> t.sale.ends(1, 0), 1);
        for (int no : new int[] {-1, 2, 3, 32, LEAST, MOST}) t.dueIdle("lot " + no, () -> t.sale.ends(no, 0), -2);
        for (int no : new int[] {-1, 3, LEAST, MOST}) t.dueIdle("what " + no, () -> t.sale.ends(1, no), -2);
        t.sale.fire(1);
        t.dueIdle("after a fire", () -> t.sale.ends(1, 0), -2);
    }

    // ---- hold -----------------------------------------------------------------------------------------------------

    private static void holdRow(String sentence, String rule, String sale, int minutes, int gain) {
        Bench t = room(sentence, rule, sale);
        t.dueIdle("minutes", () -> t.sale.hold(0, 0), minutes);
        t.dueIdle("gain", () -> t.sale.hold(0, 1), gain);
    }

    private static void holdToLongest() {
        String name = "HOLD: 0 to LONGEST";
        holdRow(name, null, "sale 5;bidder 99 99;bidder 99 5;lot;worth 0 0 20;worth 1 0 20", 5, 15);
        holdRow(name, null, "sale 5;bidder 99 99;bidder 99 6;lot;worth 0 0 20;worth 1 0 20", 0, 0);
        holdRow(name, null, "sale 1;bidder 99 99;bidder 99 1;lot;worth 0 0 20;worth 1 0 20", 1, 19);
        holdRow(name, null, "sale 300;bidder 999 300;bidder 999 299;lot;worth 0 0 300;worth 1 0 300", 299, 1);
        holdRow(name, null, "sale 300;bidder 999 300;bidder 999 300;lot;worth 0 0 300;worth 1 0 300", 0, 0);
    }

    private static void holdTillACough() {
        String name = "HOLD: or by a cough";
        holdRow(name, null, "sale 9;bidder 99 6;bidder 99 5;lot;worth 0 0 20;worth 1 0 20", 5, 15);
        holdRow(name, null, "sale 9;bidder 99 5;bidder 99 5;lot;worth 0 0 20;worth 1 0 20", 0, 0);
        holdRow(name, null, "sale 9;bidder 99 4;bidder 99 5;lot;worth 0 0 20;worth 1 0 20", 0, 0);
    }

    private static void holdOfSeveralTheLeast() {
        String name = "HOLD: so that their GAIN is most; of several the least";
        holdRow(name, null, "sale 9;bidder 99 99;bidder 99 5;lot;worth 0 0 6;worth 1 0 20", 5, 1);
        holdRow(name, null, "sale 9;bidder 99 99;bidder 99 5;lot;worth 0 0 5;worth 1 0 20", 0, 0);
        holdRow(name, null, "sale 9;bidder 99 99;bidder 99 5;lot;worth 0 0 4;worth 1 0 20", 0, 0);
        holdRow(name, "speak 0", "sale 9;bidder 3 99;bidder 99 5;lot;worth 0 0 4", 5, 1);
        holdRow(name, "speak 0", "sale 9;bidder 3 99;bidder 99 5;lot;worth 0 0 3", 0, 0);
    }

    private static void holdWhateverARuleSays() {
        String name = "HOLD: whatever a RULE says; all others as ever";
        holdRow(name, "speak 1 if bidder=0;speak minute-2", "sale 9;bidder 99 99;bidder 99 99;lot;worth 0 0 20", 4, 16);
        holdRow(name, "speak 1", "sale 9;bidder 99 99;bidder 99 99;lot;worth 0 0 20", 1, 19);
        // Without a rule 0 would speak at once, having no coins; so they pay none.
        holdRow(name, null, "sale 9;bidder 0 99;bidder 99 99;lot;worth 0 0 7;worth 1 0 2", 3, 7);
    }

    private static void holdSinceTheBell() {
        Bench t = room("HOLD: for how many minutes since the bell", null, "sale 9;bidder 99 99;bidder 99 5;lot;worth 0 0 20;worth 1 0 20");
        for (int k = 0; k < 5; k++) {
            t.dueIdle("at " + k, () -> t.sale.hold(0, 0), 5);
            t.dueIdle("at " + k, () -> t.sale.hold(0, 1), 15);
            t.minutes(1);
        }
        t.dueIdle("over", () -> t.sale.hold(0, 0), -1000);
    }

    private static void holdLeavesNothing() {
        Bench t = room("HOLD: by what is asked nothing changes", null, "sale 9;bidder 99 99;bidder 99 99;lot;worth 0 0 3;worth 1 0 6");
        t.dueIdle("it would be a loss", () -> t.sale.hold(0, 0), 0);
        t.dueIdle("who has it", () -> t.sale.ends(0, 1), 1);
        t.dueIdle("it would be a loss", () -> t.sale.hold(0, 1), 0);
        t.dueIdle("who has it", () -> t.sale.ahead(0, 4, 0), 1);
        for (int k = 0; k < 4; k++) {
            t.dueIdle("hold", () -> t.sale.hold(0, 0), 0);
            t.due("minute", t.sale.minute(), k == 3 ? 1 : 0);
        }
    }

    private static void holdWithoutThese() {
        Bench t = told("HOLD of a SILENT BIDDER: -1000 without these", "sale 9;bidder 9 1;bidder 9 9;bidder 9 9;lot;worth 1 0 9;worth 2 0 9", 1);
        t.dueIdle("sits nowhere", () -> t.sale.hold(1, 0), -1000);
        t.sit(0, 0, 0);
        t.dueIdle("no bell", () -> t.sale.hold(1, 0), -1000);
        t.sale.bell(0);
        for (int no : new int[] {-1, 3, 5, 32, LEAST, MOST}) {
            t.dueIdle("bidder " + no, () -> t.sale.hold(no, 0), -1000);
            t.dueIdle("bidder " + no, () -> t.sale.hold(no, 1), -1000);
        }
        for (int no : new int[] {-1, 2, LEAST, MOST}) t.dueIdle("what " + no, () -> t.sale.hold(1, no), -1000);
        t.minutes(1);
        t.dueIdle("has spoken", () -> t.sale.hold(0, 0), -1000);
        t.sale.fire(0);
        t.dueIdle("after a fire", () -> t.sale.hold(1, 0), -1000);
    }

    // ---- rests ----------------------------------------------------------------------------------------------------

    private static void restsOfTens() {
        // What it is worth to both; how many; the first: the second one holds what it is worth to the first one at least.
        int[][] rows = {{0, 28, 0}, {1, 27, 10}, {9, 27, 10}, {10, 43, 10}, {11, 40, 20}, {80, 36, 80}, {90, 19, 90}, {91, 19, 90}, {300, 19, 90}};
        for (int[] row : rows) {
            Bench t = told("RESTS: each holds 0, 10, .. 90 minutes; neither has more by another ten: " + row[0],
                "sale 1;bidder 0 1;bidder 0 1;lot;worth 0 0 " + row[0] + ";worth 1 0 " + row[0], 1);
            t.dueIdle("how many", () -> t.sale.rests(0, 1, 0, 0), row[1]);
            t.dueIdle("the first", () -> t.sale.rests(0, 1, 0, 1), 0);
            t.dueIdle("the second", () -> t.sale.rests(0, 1, 0, 2), row[2]);
        }
    }

    private static void restsOfUnlike() {
        Bench t = told("RESTS: the first (by the first one, then the second one)", "sale 9;bidder 9 9;bidder 9 9;lot;lot;worth 0 1 300;worth 1 1 25", 2);
        int[][] want = {{0, 1, 1, 1, 0}, {0, 1, 1, 2, 90}, {1, 0, 1, 1, 0}, {1, 0, 1, 2, 30}};
        for (int[] w : want) t.dueIdle("rests", () -> t.sale.rests(w[0], w[1], w[2], w[3]), w[4]);
        // To 0 it is worth 300: alike at 90, or 1 holds 90 and 0 holds 0 to 20, or 0 holds 30 to 90 and 1 less.
        int many = 1 + 3 + (3 + 4 + 5 + 6 + 7 + 8 + 9);
        t.dueIdle("how many", () -> t.sale.rests(0, 1, 1, 0), many);
        t.dueIdle("the other way", () -> t.sale.rests(1, 0, 1, 0), many);
    }

    private static void restsWithoutThese() {
        Bench t = told("RESTS: NONE without these (unlike)", "sale 9;bidder 9 9;bidder 9 9;lot", 1);
        for (int what = 0; what < 3; what++) {
            int w = what;
            t.dueIdle("alike", () -> t.sale.rests(0, 0, 0, w), NONE);
            t.dueIdle("alike", () -> t.sale.rests(1, 1, 0, w), NONE);
        }
        for (int no : new int[] {-1, 2, 5, 32, LEAST, MOST}) {
            t.dueIdle("one " + no, () -> t.sale.rests(no, 1, 0, 0), NONE);
            t.dueIdle("other " + no, () -> t.sale.rests(1, no, 0, 0), NONE);
        }
        for (int no : new int[] {-1, 1, 3, LEAST, MOST}) t.dueIdle("lot " + no, () -> t.sale.rests(0, 1, no, 0), NONE);
        for (int no : new int[] {-1, 3, LEAST, MOST}) t.dueIdle("what " + no, () -> t.sale.rests(0, 1, 0, no), NONE);
        t.sit(0, 0);
        t.sale.bell(0);
        t.dueIdle("when it goes on", () -> t.sale.rests(0, 1, 0, 0), 28);
        t.minutes(1);
        t.dueIdle("when it is over", () -> t.sale.rests(0, 1, 0, 0), 28);
    }

    // ---- seats ----------------------------------------------------------------------------------------------------

    private static void seatsDue(Bench t, int... want) {
        for (int k = 0; k < want.length; k++) { int w = k; t.dueIdle("seats(" + k + ")", () -> t.sale.seats(w), want[k]); }
    }

    private static void seatsFirstRow() {
        String name = "SEATS: of several the first row (none ahead of LOT 0, BIDDER 0 first): ";
        seatsDue(told(name + "worth nothing", "sale 9;bidder 9 9;lot", 1), 0, NONE, -2, -2, -2, -2);
        seatsDue(told(name + "worth something", "sale 9;bidder 9 9;lot;worth 0 0 1", 1), 1, 0, -2, -2, -2, -2);
        seatsDue(told(name + "two alike lots", "sale 9;bidder 9 9;lot;lot;worth 0 0 7;worth 0 1 7", 2), 7, 0, -2, -2, -2, -2);
        seatsDue(told(name + "a better one", "sale 9;bidder 9 9;lot;lot;worth 0 0 7;worth 0 1 8", 2), 8, 1, -2, -2, -2, -2);
        seatsDue(told(name + "two alike bidders", "sale 9;bidder 9 9;bidder 9 9;lot;worth 0 0 7;worth 1 0 7", 1), 7, NONE, 0, -2, -2, -2);
        seatsDue(told(name + "five, three", "sale 9" + ";bidder 9 9".repeat(5) + ";lot;lot;lot;worth 4 2 3;worth 3 1 3;worth 2 0 3;worth 0 2 3", 3),
            9, NONE, NONE, 0, 1, 2);
    }

    private static void seatsOfNone() {
        seatsDue(told("SEATS: no LOTS", "sale 9;bidder 9 9;bidder 9 9", 0), 0, NONE, NONE, -2, -2, -2);
        seatsDue(told("SEATS: no BIDDERS", "sale 9;lot;lot;lot", 3), 0, -2, -2, -2, -2, -2);
        seatsDue(told("SEATS: neither", "sale 9", 0), 0, -2, -2, -2, -2, -2);
    }

    private static void seatsOfTheSilent() {
        Bench t = told("SEATS: each BIDDER who is not SILENT by a LOT that has not begun, or by none",
            "sale 9;bidder 9 1;bidder 9 5;bidder 9 9;bidder 9 9;lot;lot;lot;worth 2 0 9;worth 0 0 90;worth 0 1 3;worth 3 2 90;worth 3 1 2;worth 1 0 9", 3);
        t.sit(0, 0, 0, 2);
        t.sale.bell(2);
        t.sale.bell(0);
        // 0 and 2 are gone by 1 and 9; 3 has lot 2 for nothing.
        seatsDue(t, 90 + 4 + 2, -2, -2, -2, 1, -2);
        t.minutes(1);
        t.due("0 coughs, still sits by 0", t.sale.bidder(0, 2), 0);
        seatsDue(t, 90 + 4 + 3, 1, -2, -2, NONE, -2);
        t.minutes(4);
        t.due("2 has lot 0", t.sale.lot(0, 2), 2);
        seatsDue(t, 90 + 4 + 3, 1, NONE, NONE, NONE, -2);
    }

    private static void seatsThreeHundredMinutes() {
        Bench t = told("SEATS: then 300 MINUTES", "sale 300;bidder 999 300;bidder 999 299;lot;worth 0 0 300;worth 1 0 300", 1).sit(0, 0);
        t.sale.bell(0);
        seatsDue(t, 1, -2, -2, -2, -2, -2);
    }

    private static void seatsByRooms() {
        Bench t = told("SEATS by a RULE that minds rooms", "sale 9" + ";bidder 9 9".repeat(5) + ";lot;lot;lot;worth 4 2 3;worth 3 1 3;worth 2 0 3;worth 0 2 3", 3);
        t.rule("speak rooms", 0);
        t.sale.force(0);
        seatsDue(t, 9, NONE, NONE, 0, 1, 2);
        // In room 0 1 speaks once it goes on alone, from the 5th minute on: 0 has it for 5.
        Bench u = told("SEATS: till the last of the rooms is over", "sale 20;bidder 99 99;bidder 99 99;bidder 99 9;bidder 99 4;lot;lot;worth 0 0 50;worth 2 1 5", 2);
        u.rule("speak 2-rooms if bidder=1;speak 0", 0);
        u.sale.force(0);
        u.sit(0, 0, 1, 1);
        u.sale.bell(0);
        u.sale.bell(1);
        seatsDue(u, 45 + 1, -2, -2, -2, -2, -2);
    }

    private static void seatsWithoutASale() {
        Bench n = new Bench("SEATS: -1000 for others, or without a SALE");
        for (int what = -1; what < 7; what++) { int w = what; n.dueIdle("without", () -> n.sale.seats(w), -1000); }
        n.sale("sale 9", 0);
        for (int no : new int[] {-1, 6, LEAST, MOST}) n.dueIdle("what " + no, () -> n.sale.seats(no), -1000);
    }

    // ---- tricks ---------------------------------------------------------------------------------------------------

    private static void tricksDue(Bench t, int... want) {
        for (int k = 0; k < want.length; k++) { int w = k; t.dueIdle("tricks(0, " + k + ")", () -> t.sale.tricks(0, w), want[k]); }
    }

    private static void tricksThatCanBePaid() {
        String name = "TRICKS: each if it can be: coins ";
        for (int coins = 2; coins <= 5; coins++) {
            Bench t = room(name + coins, "speak 0", "sale 60;bidder " + coins + " 3;bidder 9 5;bidder 9 5;lot;trick 2 3");
            if (coins < 4) tricksDue(t, -3, -3, -3, -3, -3, -3);
            else tricksDue(t, 4, -2, 0, 0, -2, -2);
        }
    }

    private static void tricksOnThePatient() {
        String name = "TRICKS: more PATIENCE than its EFFECT: ";
        tricksDue(room(name + "3 of 3", "speak 0", "sale 60;bidder 9 3;bidder 9 3;lot;trick 2 3"), -3, -3, -3, -3, -3, -3);
        tricksDue(room(name + "4 of 3", "speak 0", "sale 60;bidder 9 2;bidder 9 4;lot;trick 2 3"), 2, -2, 0, -2, -2, -2);
        tricksDue(room(name + "5 of 3", "speak 0", "sale 60;bidder 9 2;bidder 9 5;lot;trick 2 3"), -3, -3, -3, -3, -3, -3);
    }

    private static void tricksFirstRow() {
        String name = "TRICKS: of several rows the first (none ahead of TRICK 0): ";
        tricksDue(room(name + "none is needed", "speak 0", "sale 60;bidder 9 9;bidder 9 5;lot;trick 0 1"), 0, -2, NONE, -2, -2, -2);
        tricksDue(room(name + "alike ones", "speak 0", "sale 60;bidder 9 5;bidder 9 5;lot;trick 2 1;trick 2 2"), 2, -2, 0, -2, -2, -2);
        tricksDue(room(name + "the cheapest", "speak 0", "sale 60;bidder 9 5;bidder 9 5;lot;trick 2 1;trick 1 2;trick 1 3"), 1, -2, 1, -2, -2, -2);
        tricksDue(room(name + "for nothing", "speak 0", "sale 60;bidder 0 5;bidder 9 5;lot;trick 0 1"), 0, -2, 0, -2, -2, -2);
        tricksDue(room(name + "no TRICKS, one is not needed", "speak 0", "sale 60;bidder 0 6;bidder 9 5;lot"), 0, -2, NONE, -2, -2, -2);
        tricksDue(room(name + "no TRICKS", "speak 0", "sale 60;bidder 0 5;bidder 9 5;lot"), -3, -3, -3, -3, -3, -3);
        // Whoever of 1 and 2 is tricked speaks, and the other one when they are left alone with 0: the row with none on 1 is ahead.
        tricksDue(room(name + "BIDDER 0 first", "speak 0 if bidder=0;speak 1 if others=1;speak tricked",
            "sale 2;bidder 9 9;bidder 9 9;bidder 9 9;lot;trick 3 1"), 3, -2, NONE, 0, -2, -2);
    }

    private static void tricksOnAll() {
        Bench t = room("TRICKS: on each other SILENT one in their room", "speak 0",
            "sale 60;bidder 99 3;bidder 9 4;bidder 9 5;bidder 9 6;bidder 9 7;lot;trick 1 2;trick 2 3;trick 4 5");
        // 1 and 2 need 2 and 3 less; 3 needs 4, 4 needs 5, at least.
        tricksDue(t, 1 + 2 + 4 + 4, -2, 0, 1, 2, 2);
        Bench u = told("TRICKS: in their room alone", "sale 60;bidder 9 9;bidder 9 5;bidder 9 9;bidder 9 9;bidder 9 9;lot;lot;trick 1 1", 2).sit(0, 0, 1, 1);
        u.rule("speak 0", 0);
        u.sale.force(0);
        u.sale.bell(0);
        u.sale.bell(1);
        tricksDue(u, 0, -2, NONE, -2, -2, -2);
    }

    private static void tricksByTheLast() {
        Bench t = room("TRICKS of another one on BIDDER 0", "speak 0", "sale 60;bidder 9 5;bidder 9 5;bidder 9 5;lot;trick 3 1;trick 2 1");
        int[] want = {4, 1, 1, -2, -2, -2};
        for (int k = 0; k < 6; k++) { int w = k; t.dueIdle("tricks(2, " + k + ")", () -> t.sale.tricks(2, w), want[k]); }
        int[] middle = {4, 1, -2, 1, -2, -2};
        for (int k = 0; k < 6; k++) { int w = k; t.dueIdle("tricks(1, " + k + ")", () -> t.sale.tricks(1, w), middle[k]); }
    }

    private static void tricksWithoutThese() {
        Bench t = told("TRICKS of a BIDDER who is SILENT: -4 without these", "sale 9;bidder 9 1;bidder 9 9;bidder 9 5;lot;worth 1 0 9;worth 2 0 9", 1);
        t.dueIdle("sits nowhere", () -> t.sale.tricks(1, 0), -4);
        t.sit(0, 0, 0);
        t.dueIdle("no bell", () -> t.sale.tricks(1, 0), -4);
        t.sale.bell(0);
        for (int no : new int[] {-1, 3, 5, 32, LEAST, MOST}) t.dueIdle("bidder " + no, () -> t.sale.tricks(no, 0), -4);
        for (int no : new int[] {-1, 6, LEAST, MOST}) {
            t.dueIdle("what " + no, () -> t.sale.tricks(1, no), -4);
            t.dueIdle("what " + no + " of one who can't have it", () -> t.sale.tricks(2, no), -4);
        }
        t.minutes(1);
        t.dueIdle("has spoken", () -> t.sale.tricks(0, 0), -4);
        t.dueIdle("on who has spoken none can be", () -> t.sale.tricks(1, 1), -2);
        t.sale.fire(0);
        t.dueIdle("after a fire", () -> t.sale.tricks(1, 0), -4);
    }

    // ---- ring -----------------------------------------------------------------------------------------------------

    private static void ringTwoAtLeast() {
        Bench t = told("RING of a set of BIDDERS SILENT by one LOT, two at least: -1000 without these",
            "sale 60;bidder 9 1;bidder 9 9;bidder 9 9;bidder 9 9;bidder 9 9;lot;lot", 2);
        t.dueIdle("nobody is silent", () -> t.sale.ring(3, 0), -1000);
        t.rule("speak 0", 0);
        t.sale.force(0);
        t.sit(0, 0, 0, 1, 1);
        t.dueIdle("no bell", () -> t.sale.ring(6, 0), -1000);
        t.sale.bell(0);
        t.sale.bell(1);
        for (int set = -1; set < 33; set++) {
            int s = set;
            boolean good = set == 3 || set == 5 || set == 6 || set == 7 || set == 24;
            if (!good) for (int what = 0; what < 2; what++) { int w = what; t.dueIdle("set " + set, () -> t.sale.ring(s, w), -1000); }
        }
        for (int bit = 5; bit < 32; bit++) { int s = 6 | 1 << bit; t.dueIdle("set " + s, () -> t.sale.ring(s, 0), -1000); }
        for (int no : new int[] {LEAST, MOST, -2}) t.dueIdle("set " + no, () -> t.sale.ring(no, 0), -1000);
        for (int no : new int[] {-1, 2, LEAST, MOST}) t.dueIdle("what " + no, () -> t.sale.ring(6, no), -1000);
        t.dueIdle("two", () -> t.sale.ring(24, 0), -1);
        t.minutes(1);
        t.dueIdle("one has spoken", () -> t.sale.ring(7, 0), -1000);
        t.dueIdle("two are left", () -> t.sale.ring(6, 0), -2);
    }

    private static void ringWorthMost() {
        String name = "RING: all but the one to whom it is WORTH most (of several the least) speak in the next MINUTE";
        // Who stays has it for 1; without it nobody has it.
        int[][] worths = {{4, 5, 5, 4}, {6, 5, 5, 5}, {0, 0, 5, 4}, {0, 0, 0, -1}};
        for (int[] w : worths) {
            Bench t = room(name, "speak 0", "sale 9;bidder 9 9;bidder 9 9;bidder 9 9;lot;worth 0 0 " + w[0] + ";worth 1 0 " + w[1] + ";worth 2 0 " + w[2]);
            t.dueIdle("more", () -> t.sale.ring(7, 0), w[3]);
        }
        // Of 0 and 1, to whom it is worth the same, 0 stays, who has no coin to pay; 1 would pay one.
        Bench t = room(name, "speak 0", "sale 9;bidder 0 9;bidder 9 9;lot;worth 0 0 5;worth 1 0 5");
        t.dueIdle("the least", () -> t.sale.ring(3, 0), 5);
        Bench u = room(name, "speak 0", "sale 9;bidder 9 9;bidder 0 9;lot;worth 0 0 5;worth 1 0 5");
        u.dueIdle("the least", () -> u.sale.ring(3, 0), 4);
        Bench v = room("RING: in (1): who speaks has no cough, who stays may cough", "speak 0", "sale 9;bidder 9 1;bidder 9 9;lot;worth 0 0 5");
        v.dueIdle("less", () -> v.sale.ring(3, 0), 0 - (0 - 1));
    }

    /** 0 and 1 have lost a coin each before; by the ring 0 has the lot for one coin more than it is worth: -3 for both. */
    private static void ringDownwards() {
        Bench t = told("RING: parted evenly, downwards", "sale 5;bidder 9 99;bidder 9 99;bidder 9 99;bidder 9 1;bidder 9 1;lot;lot;lot;worth 0 0 1", 3);
        t.rule("speak 1 if bidder=2 and others=1 and minute=1", 0);
        t.sale.force(0);
        t.sit(1, 2, 0, 1, 2);
        t.sale.bell(1);
        t.sale.bell(2);
        t.minutes(1);
        t.due("gain", t.sale.bidder(0, 6), -1);
        t.due("gain", t.sale.bidder(1, 6), -1);
        t.sale.sit(0, 0);
        t.sale.sit(1, 0);
        t.sale.bell(0);
        t.dueIdle("less by", () -> t.sale.ring(3, 0), -1);
        t.dueIdle("half of -3 is -2, and -1 is more", () -> t.sale.ring(3, 1), 0);
    }

    private static void ringHolds() {
        // With it worth - 1 for both, of which each has half; without it 0 has worth - 5.
        for (int worth = 6; worth <= 12; worth++) {
            Bench t = room("RING: HOLDS: not less for any of them than their own GAIN: " + worth, "speak 0",
                "sale 60;bidder 99 60;bidder 99 5;lot;worth 0 0 " + worth + ";worth 1 0 6");
            t.dueIdle("more", () -> t.sale.ring(3, 0), 4);
            t.dueIdle("holds", () -> t.sale.ring(3, 1), (worth - 1) / 2 >= worth - 5 ? 1 : 0);
        }
    }

    private static void ringOfTheLast() {
        // Without it the last one has it, for 5 of 20; with it the first one, to whom it is worth more, for 1 of 21: 10 each.
        Bench t = room("RING: HOLDS: for any of them, the last one, too", "speak 0", "sale 60;bidder 99 5;bidder 99 60;lot;worth 0 0 21;worth 1 0 20");
        t.dueIdle("more", () -> t.sale.ring(3, 0), 5);
        t.dueIdle("holds", () -> t.sale.ring(3, 1), 0);
    }

    // ---- breath ---------------------------------------------------------------------------------------------------

    private static void breathOneToThreeHundred() {
        int[][] rows = {{1, 2}, {2, 3}, {150, 151}, {299, 300}, {300, -2}};
        for (int[] row : rows) {
            Bench t = room("BREATH: the least PATIENCE (1 to 300) in place of theirs: " + row[0], "speak 0",
                "sale 300;bidder 9 7;bidder 9 " + row[0] + ";lot");
            t.dueIdle("breath", () -> t.sale.breath(0), row[1]);
        }
        Bench u = room("BREATH: -2: by none", null, "sale 300;bidder 9 7;bidder 9 9;lot;worth 1 0 1");
        u.dueIdle("who speaks at once", () -> u.sale.breath(0), -2);
        u.dueIdle("the other one", () -> u.sale.breath(1), 2);
        Bench v = room("BREATH: not within LONGEST", "speak 0", "sale 8;bidder 9 7;bidder 9 9;lot");
        v.dueIdle("breath", () -> v.sale.breath(0), -2);
        v.dueIdle("breath", () -> v.sale.breath(1), 8);
    }

    private static void breathByARule() {
        Bench t = room("BREATH: a RULE that minds PATIENCE", "speak 1 if bidder=0 and minute=0 and patience%2=0;speak 0", "sale 300;bidder 9 7;bidder 9 3;lot");
        t.dueIdle("4 is even", () -> t.sale.breath(0), 5);
        Bench u = room("BREATH: less may be more", "speak 1 if bidder=0 and patience>10;speak 0", "sale 300;bidder 9 99;bidder 9 9;lot");
        u.dueIdle("10", () -> u.sale.breath(0), 10);
        Bench v = room("BREATH: less may be more", "speak 1 if bidder=0 and patience>9;speak 0", "sale 300;bidder 9 99;bidder 9 9;lot");
        v.dueIdle("none", () -> v.sale.breath(0), -2);
    }

    private static void breathWithoutThese() {
        Bench t = told("BREATH of a SILENT BIDDER: NONE without these", "sale 9;bidder 9 1;bidder 9 9;bidder 9 5;lot;worth 1 0 9;worth 2 0 9", 1);
        t.dueIdle("sits nowhere", () -> t.sale.breath(1), NONE);
        t.sit(0, 0, 0);
        t.dueIdle("no bell", () -> t.sale.breath(1), NONE);
        t.sale.bell(0);
        for (int no : new int[] {-1, 3, 5, 32, LEAST, MOST}) t.dueIdle("bidder " + no, () -> t.sale.breath(no), NONE);
        t.minutes(1);
        t.dueIdle("has spoken", () -> t.sale.breath(0), NONE);
        t.dueIdle("from now on", () -> t.sale.breath(1), 5);
        t.minutes(4);
        t.dueIdle("over", () -> t.sale.breath(1), NONE);
    }

    // ---- logs -----------------------------------------------------------------------------------------------------

    private static void tenLogs() {
        Bench t = told("LOGS 0 to 9; -2, and nothing happens, if there are 10", "sale 9;bidder 9 9;bidder 9 9;lot;lot", 2);
        for (int k = 1; k <= 10; k++) t.due("log", t.sale.log(0, 0, 2), k);
        t.dueIdle("an eleventh", () -> t.sale.log(0, 0, 2), -2);
        t.dueIdle("an eleventh", () -> t.sale.log(1, NONE, 0), -2);
        t.due("none then", t.sale.log(NONE, 0, 0), 0);
        t.due("logs", t.sale.count(11), 0);
        t.dueIdle("none already", () -> t.sale.log(NONE, 0, 0), 0);
        t.due("one", t.sale.log(1, NONE, 0), 1);
    }

    private static void lastLogMatters() {
        Bench t = told("so that all LOGS are so, the tenth, too", "sale 9;bidder 9 9;bidder 9 1;lot;worth 0 0 5;worth 1 0 5", 1);
        for (int k = 1; k <= 9; k++) t.sale.log(0, 0, 1);
        t.dueIdle("nine", () -> t.sale.ruled(0), 1);
        t.sale.log(0, 0, 2);
        t.dueIdle("the tenth is not", () -> t.sale.ruled(0), 0);
    }

    private static void logCoins() {
        Bench t = told("so many coins PAID (0 to 999); coins, 0 to 999 all the same, do not matter then", "sale 9;bidder 9 9;bidder 9 9;lot;lot", 2);
        for (int no : new int[] {-1, 1000, LEAST, MOST}) {
            t.dueIdle("coins " + no, () -> t.sale.log(0, 0, no), -2);
            t.dueIdle("coins of nobody " + no, () -> t.sale.log(0, NONE, no), -2);
        }
        for (int coins : new int[] {0, 999}) {
            t.sale.log(NONE, 0, 0);
            t.due("of nobody", t.sale.log(0, NONE, coins), 1);
            t.dueIdle("it is so", () -> t.sale.ruled(0), 1);
            t.due("of 1", t.sale.log(1, 1, coins), 2);
            t.dueIdle("it is not so", () -> t.sale.ruled(0), 0);
        }
    }

    private static void logWithoutThese() {
        Bench t = new Bench("log: -2, and nothing happens, without these");
        t.dueIdle("without a sale", () -> t.sale.log(0, NONE, 0), -2);
        t.dueIdle("none, without a sale", () -> t.sale.log(NONE, NONE, 0), 0);
        t.sale("sale 9;bidder 9 9;bidder 9 9;lot;lot", 2);
        for (int no : new int[] {-2, 2, 3, 32, LEAST, MOST}) t.dueIdle("lot " + no, () -> t.sale.log(no, 0, 0), -2);
        for (int no : new int[] {-2, 2, 5, 32, LEAST, MOST}) t.dueIdle("bidder " + no, () -> t.sale.log(0, no, 0), -2);
        t.due("the last two", t.sale.log(1, 1, 0), 1);
        t.due("lot NONE, whatever else", t.sale.log(NONE, LEAST, MOST), 0);
    }

    // ---- ruled, look ----------------------------------------------------------------------------------------------

    private static void ruledAll() {
        Bench t = told("RULED: which of the RULES, and of none: how many; the first", "sale 9;bidder 9 9;bidder 9 9;lot;worth 0 0 5;worth 1 0 4", 1);
        t.dueIdle("none alone", () -> t.sale.ruled(0), 1);
        t.dueIdle("none", () -> t.sale.ruled(1), NONE);
        // By rule k 1 speaks after k minutes, so that 0 has it for k + 1; without a rule 0 has it for 5.
        for (int k = 0; k < 6; k++) t.rule("speak 1 if bidder=1 and minute=" + k, k);
        t.dueIdle("all seven", () -> t.sale.ruled(0), 7);
        t.dueIdle("none", () -> t.sale.ruled(1), NONE);
        for (int coins = 1; coins <= 7; coins++) {
            t.sale.log(NONE, 0, 0);
            t.sale.log(0, 0, coins);
            t.dueIdle("how many", () -> t.sale.ruled(0), coins == 5 ? 2 : coins == 7 ? 0 : 1);
            int first = coins == 5 ? NONE : coins == 7 ? -2 : coins - 1;
            t.dueIdle("first", () -> t.sale.ruled(1), first);
        }
    }

    private static void ruledOfFew() {
        Bench t = told("RULED: all BIDDERS sit by this LOT: one", "sale 9;bidder 9 9;lot;lot", 2).rule("speak 1", 0);
        t.sale.log(0, 0, 0);
        t.dueIdle("for nothing", () -> t.sale.ruled(0), 2);
        t.sale.log(1, NONE, 0);
        t.dueIdle("never nobody", () -> t.sale.ruled(0), 0);
        Bench u = told("RULED: all BIDDERS sit by this LOT: nobody", "sale 9;lot", 1).rule("speak 1", 0);
        u.sale.log(0, NONE, 5);
        u.dueIdle("nobody has it", () -> u.sale.ruled(0), 2);
        Bench v = told("RULED: no LOTS", "sale 9;bidder 9 9", 0).rule("speak 1", 0);
        v.dueIdle("how many", () -> v.sale.ruled(0), 2);
        v.dueIdle("first", () -> v.sale.ruled(1), NONE);
    }

    private static void ruledAsTold() {
        Bench t = told("RULED: all as the text told it, of each LOT by itself", "sale 9;bidder 9 9;bidder 9 2;lot;lot;worth 0 0 9;worth 1 0 9;worth 0 1 9;worth 1 1 9;trick 5 1", 2);
        t.rule("speak 0", 0);
        t.sit(0, 0);
        t.sale.bell(0);
        t.sale.play(0, 1, 0);
        t.minutes(1);
        t.sale.force(0);
        t.sale.log(0, 0, 2);
        t.sale.log(1, 0, 2);
        t.dueIdle("how many", () -> t.sale.ruled(0), 2);
    }

    private static void ruledWithoutASale() {
        Bench t = new Bench("RULED: -3 for others, or without a SALE; LOOK: NONE");
        t.rule("speak 1", 0);
        for (int what = -1; what < 3; what++) {
            int w = what;
            t.dueIdle("ruled", () -> t.sale.ruled(w), -3);
            t.dueIdle("look", () -> t.sale.look(w), NONE);
        }
        t.sale("sale 9;lot", 1);
        for (int no : new int[] {-1, 2, LEAST, MOST}) {
            t.dueIdle("ruled", () -> t.sale.ruled(no), -3);
            t.dueIdle("look", () -> t.sale.look(no), NONE);
        }
    }

    private static void lookFewest() {
        Bench t = told("LOOK: the most alike are fewest, of several the least; how many", "sale 9;bidder 9 9;bidder 9 9;lot;lot;lot", 3);
        lookDue(t, 0, 1);
        // Without a rule both speak at once: nobody has any lot.
        t.rule("speak 1 if bidder=0 and lot=2", 0);
        // Lot 2 tells this rule from none; by lots 0 and 1 nobody has it in both, since both stay till the 9th minute.
        lookDue(t, 2, 1);
        t.rule("speak 1 if bidder=0", 1);
        // Lot 0: none, rule 0 are alike: 2; lot 1: the same; lot 2: rules 0 and 1 are alike: 2.
        lookDue(t, 0, 2);
        t.rule("speak 1 if bidder=1", 2);
        // Lot 0: 2, 1, 1; lot 2: none 1, rules 0 and 1 2, rule 2 1.
        lookDue(t, 0, 2);
        t.rule("speak 0", 3);
        // Lot 0: none, 0 and 3 are alike: 3; lot 2: none and 3; 0 and 1; 2: 2.
        lookDue(t, 2, 2);
    }

    private static void lookDue(Bench t, int lot, int many) {
        t.dueIdle("the lot", () -> t.sale.look(0), lot);
        t.dueIdle("how many", () -> t.sale.look(1), many);
    }

    private static void lookForWhat() {
        Bench t = told("LOOK: by who would have it so, and for what", "sale 9;bidder 9 9;bidder 9 9;lot;lot", 2);
        t.rule("speak 1 if bidder=0 and minute=1", 0).rule("speak 1 if bidder=0 and minute=lot+1", 1).rule("speak 1 if bidder=lot and minute=1", 2);
        t.sale.log(NONE, 0, 0);
        // None: nobody. Lot 0: 1 for 2 by all three. Lot 1: 1 for 2, 1 for 3, 0 for 2.
        lookDue(t, 1, 1);
        t.sale.log(0, 1, 2);
        lookDue(t, 1, 1);
        t.sale.log(1, 1, 2);
        lookDue(t, 0, 1);
    }

    private static void lookNoRule() {
        Bench t = told("LOOK: -2: no RULE is so, or there are no LOTS", "sale 9;bidder 9 9;bidder 9 9;lot", 1);
        t.sale.log(0, 0, 1);
        lookDue(t, -2, -2);
        t.sale.log(NONE, 0, 0);
        lookDue(t, 0, 1);
        t.sale("sale 9;bidder 9 9", 0);
        lookDue(t, -2, -2);
    }

    // ---- draws ----------------------------------------------------------------------------------------------------

    private static void seedNumbers() {
        Bench t = new Bench("x (0 to 2147483647; 0 at first); NONE, and nothing happens, below 0");
        t.due("at first", t.sale.count(13), 0);
        t.dueIdle("-1", () -> t.sale.seed(-1), NONE);
        t.dueIdle("the least", () -> t.sale.seed(LEAST), NONE);
        t.due("the most", t.sale.seed(MOST), 0);
        t.due("x", t.sale.count(13), MOST);
        t.dueIdle("-1", () -> t.sale.seed(-1), NONE);
        t.due("0", t.sale.seed(0), MOST);
        t.due("x", t.sale.count(13), 0);
    }

    /** In one minute by p: 0 has the lot if 1 coughs and 0 does not. */
    private static void drawsGoRound() {
        Bench t = room("x * 1103515245 + 12345, of 2147483648 the rest; a DRAW is x / 65536", "speak 0", "sale 9;bidder 9 9;bidder 9 9;lot");
        // Of x the next two DRAWS, mod 100: worked out elsewhere, in numbers without bounds.
        int[][] rows = {{0, 0, 68}, {1, 38, 58}, {MOST, 29, 9}, {MOST - 1, 59, 18}, {12345, 68, 88}};
        for (int[] row : rows) {
            t.sale.seed(row[0]);
            int less = Math.min(row[1], row[2]);
            int more = Math.max(row[1], row[2]);
            t.dueIdle("nobody", () -> t.sale.coughs(1, 1, less, 0), 0);
            t.dueIdle("one", () -> t.sale.coughs(1, 1, less + 1, 0), 1);
            t.dueIdle("one", () -> t.sale.coughs(1, 1, more, 1), 1);
            t.dueIdle("both", () -> t.sale.coughs(1, 1, more + 1, 0), 0);
            t.due("x as it was", t.sale.count(13), row[0]);
        }
    }

    private static void coughsTimes() {
        Bench t = room("COUGHS m times (1 to 10) n MINUTES (1 to 60)", "speak 0", "sale 300;bidder 99 99;bidder 99 60;lot");
        t.dueIdle("once", () -> t.sale.coughs(1, 60, 0, 0), 1);
        t.dueIdle("ten times", () -> t.sale.coughs(10, 60, 0, 0), 10);
        t.dueIdle("coins", () -> t.sale.coughs(10, 60, 0, 1), 600);
        t.dueIdle("too few", () -> t.sale.coughs(10, 59, 0, 0), 0);
        t.dueIdle("one minute", () -> t.sale.coughs(10, 1, 0, 0), 0);
        for (int no : new int[] {0, -1, 11, LEAST, MOST}) t.dueIdle("m " + no, () -> t.sale.coughs(no, 1, 0, 0), NONE);
        for (int no : new int[] {0, -1, 61, LEAST, MOST}) t.dueIdle("n " + no, () -> t.sale.coughs(1, no, 0, 0), NONE);
    }

    private static void coughsBelow() {
        Bench t = room("a DRAW mod 100: below p (0 to 100) they speak in it", "speak 0", "sale 9;bidder 9 9;bidder 9 9;lot");
        // From 0 the first DRAW is 0, the second 68.
        t.dueIdle("below 0", () -> t.sale.coughs(1, 1, 0, 0), 0);
        t.dueIdle("below 1", () -> t.sale.coughs(1, 1, 1, 0), 1);
        t.dueIdle("below 68", () -> t.sale.coughs(1, 1, 68, 0), 1);
        t.dueIdle("below 69", () -> t.sale.coughs(1, 1, 69, 0), 0);
        t.dueIdle("below 100", () -> t.sale.coughs(10, 60, 100, 0), 0);
        for (int no : new int[] {-1, 101, LEAST, MOST}) t.dueIdle("p " + no, () -> t.sale.coughs(1, 1, no, 0), NONE);
        for (int no : new int[] {-1, 2, LEAST, MOST}) t.dueIdle("what " + no, () -> t.sale.coughs(1, 1, 0, no), NONE);
        // From 194 the first DRAW is 99 (mod 100), the second 69.
        t.sale.seed(194);
        t.dueIdle("99 is not below 99", () -> t.sale.coughs(1, 1, 99, 0), 1);
        t.dueIdle("99 is below 100", () -> t.sale.coughs(1, 1, 100, 0), 0);
    }

    private static void coughsOfNone() {
        Bench t = new Bench("COUGHS: NONE without a SALE; LOTS somebody got in these");
        t.dueIdle("without a sale", () -> t.sale.coughs(1, 1, 0, 0), NONE);
        t.sale("sale 9;bidder 9 9;bidder 9 9;lot;lot;worth 0 1 2;worth 1 1 1", 2);
        t.dueIdle("nobody is silent", () -> t.sale.coughs(1, 1, 100, 0), 0);
        t.sale.sit(0, 0);
        t.sale.bell(0);
        t.dueIdle("got before", () -> t.sale.coughs(10, 60, 0, 0), 0);
        t.sit(1, 1);
        t.sale.bell(1);
        t.dueIdle("got in these", () -> t.sale.coughs(10, 60, 0, 0), 10);
        t.dueIdle("coins", () -> t.sale.coughs(10, 60, 0, 1), 20);
        t.minutes(2);
        t.dueIdle("coins before", () -> t.sale.coughs(10, 60, 0, 1), 0);
    }

    // ---- count, images --------------------------------------------------------------------------------------------

    private static void countOthers() {
        Bench t = new Bench("count: NONE for others");
        for (int no : new int[] {-1, 15, 16, LEAST, MOST}) t.dueIdle("count " + no, () -> t.sale.count(no), NONE);
        t.sale("sale 9;lot", 1);
        for (int no : new int[] {-1, 15, 16, LEAST, MOST}) t.dueIdle("count " + no, () -> t.sale.count(no), NONE);
    }

    private static void fourImages() {
        Bench t = new Bench("IMAGES 0 to 3; NONE without it, or if it was never made");
        for (int no : new int[] {-1, 4, 5, 32, LEAST, MOST}) {
            t.dueIdle("image " + no, () -> t.sale.image(no), NONE);
            t.dueIdle("back " + no, () -> t.sale.back(no), NONE);
        }
        for (int k = 0; k < 4; k++) { int never = k; t.dueIdle("never made", () -> t.sale.back(never), NONE); }
        t.sale("sale 9;bidder 9 9;bidder 9 9;lot", 1).rule("speak 0", 0);
        t.sale.force(0);
        t.sit(0, 0);
        t.sale.bell(0);
        for (int k = 0; k < 4; k++) {
            int now = k;
            t.dueIdle("image", () -> t.sale.image(now), k);
            for (int later = k + 1; later < 4; later++) { int never = later; t.dueIdle("never made", () -> t.sale.back(never), NONE); }
            t.minutes(1);
        }
        for (int k : new int[] {3, 0, 2, 1, 1}) {
            t.due("back", t.sale.back(k), k);
            t.due("the minute", t.sale.count(6), k);
            t.due("patience", t.sale.bidder(1, 1), 9 - k);
        }
        for (int no : new int[] {-1, 4, LEAST, MOST}) t.dueIdle("back " + no, () -> t.sale.back(no), NONE);
        t.dueIdle("made again", () -> t.sale.image(3), 1);
        t.minutes(2);
        t.due("back", t.sale.back(3), 1);
    }

    private static void allButTheTape() {
        Bench t = told("all but the TAPE and the RULES; these stay; nothing can be UNDONE then", "sale 9;bidder 9 9;bidder 9 9;lot", 1);
        t.rule("speak 0", 0).rule("speak 1", 1);
        t.sale.force(1);
        t.sale.seed(4);
        t.sale.sit(0, 0);
        t.sale.log(0, 0, 1);
        t.tape("speak 2");
        t.dueIdle("image", () -> t.sale.image(0), 0);
        t.due("acts stay", t.sale.count(12), 1);
        t.due("a rule", t.sale.rule(), 2);
        t.sale("sale 8", 0);
        t.sale.force(2);
        t.sale.seed(5);
        t.sale.feed(1, 2, 3, 4, 5);
        t.due("back", t.sale.back(0), 0);
        int[] want = {9, 2, 1, 0, 3, 1, 0, 0, 0, 0, 0, 1, 0, 4, 20};
        for (int k = 0; k < 15; k++) t.due("count(" + k + ")", t.sale.count(k), want[k]);
        t.due("sits", t.sale.bidder(0, 2), 0);
        t.dueIdle("undo", t.sale::undo, NONE);
        t.due("an act", t.sale.sit(1, 0), NONE);
        t.due("undone", t.sale.undo(), 0);
    }

    private static void imageOfNoSale() {
        Bench t = new Bench("an IMAGE ahead of any SALE");
        t.dueIdle("image", () -> t.sale.image(2), 0);
        t.sale("sale 9;bidder 9 9;lot", 1);
        t.sale.sit(0, 0);
        t.due("back", t.sale.back(2), 0);
        t.due("longest", t.sale.count(0), 0);
        t.dueIdle("seats", () -> t.sale.seats(0), -1000);
        t.dueIdle("ruled", () -> t.sale.ruled(0), -3);
        t.dueIdle("ahead", () -> t.sale.ahead(0, 0, 0), -1000);
        t.dueIdle("coughs", () -> t.sale.coughs(1, 1, 1, 1), NONE);
        t.dueIdle("bidder", () -> t.sale.bidder(0, 0), -1000);
        t.dueIdle("lot", () -> t.sale.lot(0, 0), -2);
    }

    public static void main(String[] args) {
        nothingChanges();
        saleOfOneMinute();
        fullHouse();
        aheadMinutes();
        aheadWhoHasIt();
        aheadWithoutThese();
        endsInSoManyMinutes();
        endsOfALotThatGoesOn();
        holdToLongest();
        holdTillACough();
        holdOfSeveralTheLeast();
        holdWhateverARuleSays();
        holdSinceTheBell();
        holdLeavesNothing();
        holdWithoutThese();
        restsOfTens();
        restsOfUnlike();
        restsWithoutThese();
        seatsFirstRow();
        seatsOfNone();
        seatsOfTheSilent();
        seatsThreeHundredMinutes();
        seatsByRooms();
        seatsWithoutASale();
        tricksThatCanBePaid();
        tricksOnThePatient();
        tricksFirstRow();
        tricksOnAll();
        tricksByTheLast();
        tricksWithoutThese();
        ringTwoAtLeast();
        ringWorthMost();
        ringDownwards();
        ringHolds();
        ringOfTheLast();
        breathOneToThreeHundred();
        breathByARule();
        breathWithoutThese();
        tenLogs();
        lastLogMatters();
        logCoins();
        logWithoutThese();
        ruledAll();
        ruledOfFew();
        ruledAsTold();
        ruledWithoutASale();
        lookFewest();
        lookForWhat();
        lookNoRule();
        seedNumbers();
        drawsGoRound();
        coughsTimes();
        coughsBelow();
        coughsOfNone();
        countOthers();
        fourImages();
        allButTheTape();
        imageOfNoSale();
        Bench.close("QuestionBounds");
    }
}
