import java.util.ArrayList;
import java.util.List;
import java.util.Random;

/** Drawn runs of calls on the class and on the model side by side: each answer, and all that can be seen after it. */
public final class AgainstModel {
    private static final String[] NAMES = {"force", "minute", "sit", "bell", "play", "fire", "undo", "ahead", "ends", "hold",
        "rests", "seats", "tricks", "ring", "breath", "log", "ruled", "look", "seed", "coughs", "count", "image", "back",
        "bidder", "lot", "worth", "trick", "text"};
    private static final String[] WORDS = {"bidder", "lot", "worth", "purse", "patience", "minute", "others", "tricked",
        "best", "rooms"};

    private final Random draw;
    private final SilentSale real = new SilentSale();
    private final Model model = new Model();
    private final List<String> told = new ArrayList<>();
    private int calls = 0;
    private boolean wrong = false;

    private AgainstModel(long seed) { draw = new Random(seed); }

    private int below(int n) { return draw.nextInt(n); }
    private int from(int a, int b) { return a + draw.nextInt(b - a + 1); }
    private boolean seldom(int oneIn) { return draw.nextInt(oneIn) == 0; }

    private void due(String call, int got, int want) {
        calls++;
        told.add(call + " = " + got);
        if (got != want) {
            wrong = true;
            System.out.println("wrong: " + told + ", due is " + want);
        }
    }

    private void feed(String text) {
        byte[] bytes = new byte[(text.length() + 19) / 20 * 20];
        for (int k = 0; k < text.length(); k++) bytes[k] = (byte) text.charAt(k);
        for (int k = 0; k < bytes.length; k += 20) {
            int[] n = new int[5];
            for (int j = 0; j < 20; j++) n[j / 4] = n[j / 4] << 8 | bytes[k + j] & 255;
            due("feed", real.feed(n[0], n[1], n[2], n[3], n[4]), model.feed(n));
        }
    }

    private void tell(String text, boolean sale) {
        due("end(0)", real.end(0), model.end(0));
        feed(text.length() > 400 ? text.substring(0, 400) : text);
        due("end(" + text + ")", real.end(text.length()), model.end(text.length()));
        if (sale) due("sale()", real.sale(), model.sale());
        else due("rule()", real.rule(), model.rule());
    }

    private String blanks() { return seldom(6) ? " ".repeat(below(3)) : " "; }

    /** All wait by one lot or two till they cough, so that small tricks decide. */
    private String closeSaleText() {
        StringBuilder t = new StringBuilder("sale 60");
        for (int k = 0; k < 4; k++) t.append(";bidder ").append(from(20, 40)).append(' ').append(from(4, 12));
        t.append(";lot;lot");
        for (int b = 0; b < 4; b++) t.append(";worth ").append(b).append(" 0 ").append(from(15, 40)).append(";worth ").append(b).append(" 1 ").append(from(1, 40));
        for (int k = 0; k < 3; k++) t.append(";trick ").append(below(6)).append(' ').append(from(1, 5));
        return t.toString();
    }

    private String saleText() {
        if (seldom(3)) return closeSaleText();
        int top = seldom(3) ? 300 : 30;
        StringBuilder t = new StringBuilder("sale " + from(1, top));
        int bidders = seldom(8) ? below(3) : from(2, 5), lots = seldom(8) ? below(2) : from(1, 3), tricks = below(4);
        for (int k = 0; k < bidders; k++) t.append(";bidder ").append(seldom(4) ? below(5) : from(0, top)).append(blanks()).append(from(1, top));
        for (int k = 0; k < lots; k++) t.append(blanks()).append(";lot");
        for (int k = 0; k < tricks; k++) t.append(";trick ").append(below(6)).append(' ').append(from(1, Math.max(2, top / 4)));
        for (int b = 0; b < bidders; b++) {
            for (int l = 0; l < lots; l++) if (!seldom(5) && t.length() < 385) t.append(";worth ").append(b).append(' ').append(l).append(' ').append(from(0, top));
        }
        return t.toString();
    }

    private String value() { return seldom(3) ? String.valueOf(seldom(4) ? from(0, 99999) : below(20)) : WORDS[below(WORDS.length)]; }
    private String sum() {
        StringBuilder t = new StringBuilder(value());
        while (seldom(2) && t.length() < 60) t.append(blanks()).append("+-*/%+-".charAt(below(7))).append(blanks()).append(value());
        return t.toString();
    }
    private String fact(int deep) {
        if (deep < 4 && seldom(4)) return "not " + fact(deep + 1);
        if (deep < 4 && seldom(4)) return "[" + test(deep + 1) + blanks() + "]";
        return sum() + blanks() + new String[] {"<", "<=", "=", ">=", ">"}[below(5)] + blanks() + sum();
    }
    private String test(int deep) {
        StringBuilder t = new StringBuilder(fact(deep));
        while (seldom(3)) t.append(seldom(2) ? " or " : " and ").append(fact(deep));
        return t.toString();
    }
    private String ruleText() {
        if (seldom(3)) {
            String[] usual = {"speak minute - worth / 2", "speak minute >= 3", "speak minute + rooms - worth / 3",
                "speak 1 if minute >= worth or patience < 3;speak minute - best if others > 1",
                "speak 0", "speak tricked + minute - 10", "speak minute - purse if rooms = 1;speak minute - 20 if bidder = 1",
                "speak 1 if minute * 2 > worth + rooms"};
            return usual[below(usual.length)];
        }
        StringBuilder t = new StringBuilder();
        int clauses = seldom(10) ? from(10, 13) : from(1, 3);
        for (int k = 0; k < clauses; k++) t.append(k == 0 ? "" : ";").append("speak ").append(sum()).append(seldom(3) ? "" : " if " + test(0));
        return t.toString();
    }
    /** A text with a fault, mostly: a byte more, less or other, or a piece twice. */
    private String spoilt(String text) {
        StringBuilder t = new StringBuilder(text);
        int times = from(1, 2);
        for (int k = 0; k < times && t.length() > 0; k++) {
            int at = below(t.length());
            String signs = "abs 0193;;[]<>=+-*/%nN\u0000\u00ff";
            switch (below(5)) {
                case 0: t.deleteCharAt(at); break;
                case 1: t.insert(at, signs.charAt(below(signs.length()))); break;
                case 2: t.setCharAt(at, signs.charAt(below(signs.length()))); break;
                case 3: t.insert(at, t.substring(at, Math.min(t.length(), at + below(12)))); break;
                default: t.setLength(at);
            }
        }
        return t.toString();
    }

    private int bidder() {
        List<Integer> silent = new ArrayList<>();
        for (int b = 0; b < 5; b++) if (model.world.silent[b]) silent.add(b);
        if (!silent.isEmpty() && !seldom(4)) return silent.get(below(silent.size()));
        return drawnBidder();
    }
    private int drawnBidder() { return seldom(15) ? new int[] {-2, -1, 5, 6, Integer.MIN_VALUE, Integer.MAX_VALUE}[below(6)] : below(5); }
    private int lot() { return seldom(12) ? new int[] {-2, -1, 3, 4, Integer.MIN_VALUE, Integer.MAX_VALUE}[below(6)] : below(3); }
    private int what(int most) { return seldom(15) ? new int[] {-1, most + 1, Integer.MIN_VALUE, Integer.MAX_VALUE}[below(4)] : from(0, most); }

    private void call(String name) {
        int a = bidder(), b = bidder(), l = lot(), t = lot(), w;
        switch (name) {
            case "force": w = seldom(8) ? from(-3, 7) : from(-1, model.rules.size() - 1); due("force(" + w + ")", real.force(w), model.force(w)); break;
            case "minute": due("minute()", real.minute(), model.minute()); break;
            case "sit": due("sit(" + a + "," + l + ")", real.sit(a, l), model.sit(a, l)); break;
            case "bell": due("bell(" + l + ")", real.bell(l), model.bell(l)); break;
            case "play": due("play(" + a + "," + b + "," + t + ")", real.play(a, b, t), model.play(a, b, t)); break;
            case "fire": due("fire(" + l + ")", real.fire(l), model.fire(l)); break;
            case "undo": due("undo()", real.undo(), model.undo()); break;
            case "ahead": w = what(2); int n = seldom(10) ? from(-2, 302) : below(60); a = w == 0 ? l : a;
                due("ahead(" + a + "," + n + "," + w + ")", real.ahead(a, n, w), model.ahead(a, n, w)); break;
            case "ends": w = what(2); due("ends(" + l + "," + w + ")", real.ends(l, w), model.ends(l, w)); break;
            case "hold": w = what(1); due("hold(" + a + "," + w + ")", real.hold(a, w), model.hold(a, w)); break;
            case "rests": w = what(2); due("rests(" + a + "," + b + "," + l + "," + w + ")", real.rests(a, b, l, w), model.rests(a, b, l, w)); break;
            case "seats": w = what(5); due("seats(" + w + ")", real.seats(w), model.seats(w)); break;
            case "tricks": w = what(5); due("tricks(" + a + "," + w + ")", real.tricks(a, w), model.tricks(a, w)); break;
            case "ring": w = what(1); int set = seldom(10) ? draw.nextInt() : seldom(2) ? below(32) : model.lot(l, 5);
                due("ring(" + set + "," + w + ")", real.ring(set, w), model.ring(set, w)); break;
            case "breath": due("breath(" + a + ")", real.breath(a), model.breath(a)); break;
            case "log": log(l, b); break;
            case "ruled": w = what(1); due("ruled(" + w + ")", real.ruled(w), model.ruled(w)); break;
            case "look": w = what(1); due("look(" + w + ")", real.look(w), model.look(w)); break;
            case "seed": w = draw.nextInt(); due("seed(" + w + ")", real.seed(w), model.seed(w)); break;
            case "coughs": coughs(); break;
            case "count": w = what(14); due("count(" + w + ")", real.count(w), model.count(w)); break;
            case "image": w = seldom(6) ? from(-1, 4) : below(4); due("image(" + w + ")", real.image(w), model.image(w)); break;
            case "back": w = seldom(6) ? from(-1, 4) : below(4); due("back(" + w + ")", real.back(w), model.back(w)); break;
            case "bidder": w = what(6); due("bidder(" + a + "," + w + ")", real.bidder(a, w), model.bidder(a, w)); break;
            case "lot": w = what(5); due("lot(" + l + "," + w + ")", real.lot(l, w), model.lot(l, w)); break;
            case "worth": due("worth(" + a + "," + l + ")", real.worth(a, l), model.worth(a, l)); break;
            case "trick": w = what(1); due("trick(" + t + "," + w + ")", real.trick(t, w), model.trick(t, w)); break;
            default: if (seldom(4)) text();
        }
    }

    private void text() {
        boolean sale = seldom(3);
        String text = sale ? saleText() : ruleText();
        tell(seldom(2) ? spoilt(text) : text, sale && seldom(2));
    }

    private void log(int l, int b) {
        int coins = seldom(10) ? from(-2, 1001) : below(20);
        // Most logs tell what one of the rules, or none, does, so that something fits.
        if (model.L(l) && !seldom(4)) {
            int r = from(-1, model.rules.size() - 1);
            int[] sold = model.sold(r < 0 ? null : model.rules.get(r), l);
            b = sold[0];
            coins = b < 0 ? coins : sold[1];
        }
        due("log(" + l + "," + b + "," + coins + ")", real.log(l, b, coins), model.log(l, b, coins));
    }

    private void coughs() {
        int m = seldom(10) ? from(0, 11) : from(1, 10), n = seldom(10) ? from(0, 61) : from(1, 60);
        int p = seldom(10) ? from(-1, 101) : below(20), w = what(1);
        due("coughs(" + m + "," + n + "," + p + "," + w + ")", real.coughs(m, n, p, w), model.coughs(m, n, p, w));
    }

    /** All that can be seen, so that a call which should change nothing, or less, is found out at once. */
    private void seeAll() {
        int before = calls;
        for (int k = -1; k < 16; k++) due("count(" + k + ")", real.count(k), model.count(k));
        for (int b = 0; b < 5; b++) for (int k = 0; k < 7; k++) due("bidder(" + b + "," + k + ")", real.bidder(b, k), model.bidder(b, k));
        for (int l = 0; l < 3; l++) for (int k = 0; k < 6; k++) due("lot(" + l + "," + k + ")", real.lot(l, k), model.lot(l, k));
        for (int b = 0; b < 5; b++) for (int l = 0; l < 3; l++) due("worth(" + b + "," + l + ")", real.worth(b, l), model.worth(b, l));
        for (int t = 0; t < 3; t++) for (int k = 0; k < 2; k++) due("trick(" + t + "," + k + ")", real.trick(t, k), model.trick(t, k));
        if (!wrong) told.subList(told.size() - (calls - before), told.size()).clear();
    }

    private void setUp() {
        if (seldom(20)) return;
        int rules = below(7);
        for (int k = 0; k < rules; k++) tell(seldom(10) ? spoilt(ruleText()) : ruleText(), false);
        if (seldom(2)) call("force");
        if (!seldom(20)) openSale();
    }

    private void openSale() {
        tell(saleText(), true);
        for (int b = 0; b < 5; b++) {
            int l = seldom(2) ? 0 : below(3);
            due("sit(" + b + "," + l + ")", real.sit(b, l), model.sit(b, l));
        }
        for (int l = 0; l < 3; l++) if (!seldom(4)) due("bell(" + l + ")", real.bell(l), model.bell(l));
    }

    private boolean goes(int steps) {
        setUp();
        seeAll();
        for (int k = 0; k < steps && !wrong; k++) {
            String name = NAMES[below(NAMES.length)];
            if (seldom(4)) name = new String[] {"minute", "sit", "bell"}[below(3)];
            if (name.equals("seats") && !seldom(4)) continue;
            call(name);
            seeAll();
            if (model.lots(model.world, 1) == 0 && seldom(6)) openSale();
        }
        return !wrong;
    }

    /** One lot goes on by a rule that minds rooms, so that who sits by the others changes its course. */
    private boolean seatsWell() {
        String[] minding = {"speak rooms - 1 if minute % 3 = bidder % 3;speak minute - 9",
            "speak minute + rooms * 3 - worth / 2", "speak 2 - rooms if bidder % 2 = 0;speak minute - rooms * 4", "speak 1 if minute * 2 > worth + rooms * 5"};
        tell(minding[below(minding.length)], false);
        due("force(0)", real.force(0), model.force(0));
        StringBuilder t = new StringBuilder("sale " + from(5, 30));
        for (int k = 0; k < 5; k++) t.append(";bidder ").append(seldom(2) ? 0 : from(1, 30)).append(' ').append(from(1, 12));
        t.append(";lot;lot;lot");
        for (int b = 0; b < 5; b++) for (int l = 0; l < 3; l++) if (!seldom(3)) t.append(";worth ").append(b).append(' ').append(l).append(' ').append(l == 1 ? from(10, 40) : below(4));
        tell(t.toString(), true);
        for (int b = 0; b < 5; b++) if (seldom(2)) due("sit", real.sit(b, 1), model.sit(b, 1));
        due("bell", real.bell(1), model.bell(1));
        for (int w = 0; w < 6; w++) due("seats(" + w + ")", real.seats(w), model.seats(w));
        return !wrong;
    }

    private static int texts(int seed, int many) {
        int wrong = 0;
        for (int k = 0; k < many; k++) {
            AgainstModel run = new AgainstModel(seed * 1000003L + k);
            boolean sale = run.seldom(3);
            String text = sale ? run.saleText() : run.ruleText();
            run.tell(run.seldom(10) ? text : run.spoilt(text), sale);
            if (run.wrong) wrong++;
        }
        return wrong;
    }

    public static void main(String[] args) {
        int runs = args.length > 0 ? Integer.parseInt(args[0]) : 300;
        int seed = args.length > 1 ? Integer.parseInt(args[1]) : 1;
        int wrong = texts(seed, runs * 50);
        for (int k = 0; k < runs; k++) if (!new AgainstModel(seed * 7919L + k).goes(90)) wrong++;
        for (int k = 0; k < runs / 3; k++) if (!new AgainstModel(seed * 104729L + k).seatsWell()) wrong++;
        System.out.println("AgainstModel: " + (runs - Math.min(runs, wrong)) + " of " + runs + " runs are as due");
        if (wrong != 0) System.exit(1);
    }
}
