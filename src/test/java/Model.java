import java.util.ArrayList;
import java.util.Arrays;
import java.util.List;
import java.util.function.IntPredicate;

/** The document once more, written as plainly as can be, by brute force and with the whole library: what is due. */
final class Model {
    static final class Fault extends RuntimeException {
        final int value;
        Fault(int place, int kind) { super(null, null, false, false); value = 1 + 8 * place + kind; }
    }

    interface Sum { long of(Who w); }
    interface Test { boolean of(Who w); }
    record Clause(Sum sum, Test test) { }
    record Who(Sale sale, World world, int bidder, int lot) {
        long word(String name) {
            switch (name) {
                case "bidder": return bidder;
                case "lot": return lot;
                case "worth": return sale.worth[bidder][lot];
                case "purse": return world.purse[bidder];
                case "patience": return world.patience[bidder];
                case "minute": return world.gone[lot];
                case "others": return others().size();
                case "tricked": return world.tricked[bidder];
                case "best": return others().stream().mapToInt(o -> sale.worth[o][lot]).max().orElse(0);
                case "rooms": return Arrays.stream(world.stage).limit(sale.lots).filter(s -> s == 1).count();
                default: throw new IllegalStateException(name);
            }
        }
        List<Integer> others() {
            List<Integer> all = new ArrayList<>();
            for (int o = 0; o < sale.bidders; o++) if (o != bidder && world.silent[o] && world.seat[o] == lot) all.add(o);
            return all;
        }
    }

    static final class Sale {
        int longest, bidders, lots, tricks;
        int[] purse = new int[5], patience = new int[5], price = new int[3], effect = new int[3];
        int[][] worth = new int[5][3];
    }

    static final class World implements Cloneable {
        int[] purse = new int[5], patience = new int[5], seat = {-1, -1, -1, -1, -1}, tricked = new int[5];
        boolean[] silent = new boolean[5];
        int[] stage = new int[3], gone = new int[3], owner = {-1, -1, -1}, paid = new int[3];
        int minute;
        World copy() {
            World w = new World();
            w.purse = purse.clone(); w.patience = patience.clone(); w.seat = seat.clone(); w.tricked = tricked.clone();
            w.silent = silent.clone(); w.stage = stage.clone(); w.gone = gone.clone(); w.owner = owner.clone();
            w.paid = paid.clone(); w.minute = minute;
            return w;
        }
        static World of(Sale s) {
            World w = new World();
            w.purse = s.purse.clone(); w.patience = s.patience.clone();
            return w;
        }
    }

    record Kept(Sale sale, World world, List<int[]> logs, int x, int force) { }

    // ---- reading ---------------------------------------------------------------------------------------------

    /** kind: w a word, n a number, s a sign or another byte, e the end. */
    record Token(char kind, String text, int place) { }

    static List<Token> tokens(String t) {
        List<Token> all = new ArrayList<>();
        int i = 0;
        while (i < t.length()) {
            char c = t.charAt(i);
            int j = i + 1;
            if (c == ' ') { i++; continue; }
            if (c >= 'a' && c <= 'z') {
                while (j < t.length() && t.charAt(j) >= 'a' && t.charAt(j) <= 'z') j++;
                all.add(new Token('w', t.substring(i, j), i));
            } else if (c >= '0' && c <= '9') {
                while (j < t.length() && t.charAt(j) >= '0' && t.charAt(j) <= '9') j++;
                all.add(new Token('n', t.substring(i, j), i));
            } else {
                if ((c == '<' || c == '>') && j < t.length() && t.charAt(j) == '=') j++;
                all.add(new Token('s', t.substring(i, j), i));
            }
            i = j;
        }
        all.add(new Token('e', "", t.length()));
        return all;
    }

    static final class Parser {
        final List<Token> all;
        int at = 0;
        int pieces = 0;
        Parser(String text) { all = tokens(text); }
        Token peek() { return all.get(at); }
        boolean is(String text) { return peek().kind != 'e' && peek().text.equals(text); }
        boolean take(String text) { if (is(text)) { at++; return true; } return false; }
        int number(int least, int most) {
            Token t = peek();
            if (t.kind != 'n') throw new Fault(t.place, 0);
            if (t.text.length() > 5) throw new Fault(t.place, 1);
            int v = Integer.parseInt(t.text);
            if (v < least || v > most) throw new Fault(t.place, 1);
            at++;
            return v;
        }
        void piece() { if (pieces == 60) throw new Fault(peek().place, 3); pieces++; }

        Sale sale() {
            Sale s = new Sale();
            int clauses = 0;
            do {
                Token t = peek();
                boolean known = t.kind == 'w' && List.of("sale", "bidder", "lot", "worth", "trick").contains(t.text);
                if (!known) throw new Fault(t.place, 0);
                if (clauses == 40) throw new Fault(t.place, 4);
                if (t.text.equals("sale") != (clauses == 0)) throw new Fault(t.place, 4);
                clauses++;
                at++;
                switch (t.text) {
                    case "sale": s.longest = number(1, 300); break;
                    case "bidder":
                        if (s.bidders == 5) throw new Fault(t.place, 4);
                        s.purse[s.bidders] = number(0, 999);
                        s.patience[s.bidders] = number(1, 300);
                        s.bidders++;
                        break;
                    case "lot":
                        if (s.lots == 3) throw new Fault(t.place, 4);
                        s.lots++;
                        break;
                    case "worth":
                        int b = number(0, s.bidders - 1), l = number(0, s.lots - 1);
                        s.worth[b][l] = number(0, 300);
                        break;
                    default:
                        if (s.tricks == 3) throw new Fault(t.place, 4);
                        s.price[s.tricks] = number(0, 99);
                        s.effect[s.tricks] = number(1, 99);
                        s.tricks++;
                }
            } while (take(";"));
            if (peek().kind != 'e') throw new Fault(peek().place, 0);
            return s;
        }

        List<Clause> rule() {
            List<Clause> clauses = new ArrayList<>();
            do {
                if (!is("speak")) throw new Fault(peek().place, 0);
                if (clauses.size() == 12) throw new Fault(peek().place, 4);
                at++;
                Sum sum = sum();
                clauses.add(new Clause(sum, take("if") ? test(0) : null));
            } while (take(";"));
            if (peek().kind != 'e') throw new Fault(peek().place, 0);
            return clauses;
        }
        Test test(int deep) {
            Test a = part(deep);
            while (take("or")) { Test l = a, r = part(deep); a = w -> l.of(w) || r.of(w); }
            return a;
        }
        Test part(int deep) {
            Test a = fact(deep);
            while (take("and")) { Test l = a, r = fact(deep); a = w -> l.of(w) && r.of(w); }
            return a;
        }
        Test fact(int deep) {
            if (is("not") || is("[")) {
                if (deep == 10) throw new Fault(peek().place, 2);
                if (take("not")) { Test a = fact(deep + 1); return w -> !a.of(w); }
                at++;
                Test a = test(deep + 1);
                if (!take("]")) throw new Fault(peek().place, 0);
                return a;
            }
            Sum l = sum();
            String sign = peek().text;
            if (peek().kind != 's' || !List.of("<", "<=", "=", ">=", ">").contains(sign)) throw new Fault(peek().place, 0);
            piece();
            at++;
            Sum r = sum();
            return w -> {
                int c = Long.compare(l.of(w), r.of(w));
                return sign.equals("=") ? c == 0 : sign.charAt(0) == '<' ? c < 0 || sign.length() == 2 && c == 0
                    : c > 0 || sign.length() == 2 && c == 0;
            };
        }
        Sum sum() {
            Sum a = term();
            while (is("+") || is("-")) {
                boolean plus = is("+");
                at++;
                Sum l = a, r = term();
                a = w -> plus ? l.of(w) + r.of(w) : l.of(w) - r.of(w);
            }
            return a;
        }
        Sum term() {
            Sum a = value();
            while (is("*") || is("/") || is("%")) {
                char op = peek().text.charAt(0);
                at++;
                Sum l = a, r = value();
                a = w -> {
                    long x = l.of(w), y = r.of(w);
                    return op == '*' ? x * y : y == 0 ? 0 : op == '/' ? x / y : x % y;
                };
            }
            return a;
        }
        Sum value() {
            Token t = peek();
            List<String> words = List.of("bidder", "lot", "worth", "purse", "patience", "minute", "others", "tricked", "best", "rooms");
            if (t.kind == 'n') {
                if (t.text.length() > 5) throw new Fault(t.place, 1);
                piece();
                at++;
                long v = Long.parseLong(t.text);
                return w -> v;
            }
            if (t.kind != 'w' || !words.contains(t.text)) throw new Fault(t.place, 0);
            piece();
            at++;
            return w -> w.word(t.text);
        }
    }

    // ---- the course of things --------------------------------------------------------------------------------

    Sale sale = new Sale();
    World world = new World();
    List<List<Clause>> rules = new ArrayList<>();
    int force = -1;
    List<int[]> logs = new ArrayList<>();
    int x = 0;
    StringBuilder tape = new StringBuilder();
    ArrayList<World> past = new ArrayList<>();
    Kept[] images = new Kept[4];

    boolean told() { return sale.longest > 0; }
    boolean B(int b) { return b >= 0 && b < sale.bidders; }
    boolean L(int l) { return l >= 0 && l < sale.lots; }
    boolean T(int t) { return t >= 0 && t < sale.tricks; }
    int gain(World w, int b) {
        int g = 0;
        for (int l = 0; l < 3; l++) if (w.owner[l] == b) g += sale.worth[b][l] - w.paid[l];
        return g;
    }
    List<Clause> inForce() { return force < 0 ? null : rules.get(force); }

    /** says: who speaks anyway in (1); keeps: who does not listen to the rule. */
    int step(World w, List<Clause> rule, IntPredicate says, int keeps) {
        int bits = 0;
        for (int l = 0; l < sale.lots; l++) {
            if (w.stage[l] != 1) continue;
            World then = w.copy();
            for (int b = 0; b < sale.bidders; b++) {
                if (!then.silent[b] || then.seat[b] != l) continue;
                boolean speaks = says.test(b);
                if (!speaks && b != keeps) speaks = speaks(then, rule, b, l);
                if (!speaks) {
                    if (w.patience[b] > 0) w.patience[b]--;
                    speaks = w.patience[b] == 0;
                }
                if (speaks) { bits |= 1 << b; w.silent[b] = false; }
            }
            w.gone[l]++;
            int left = 0, one = -1;
            for (int b = 0; b < sale.bidders; b++) if (w.silent[b] && w.seat[b] == l) { left++; one = b; }
            if (left == 1) {
                w.paid[l] = Math.min(w.purse[one], w.gone[l]);
                w.purse[one] -= w.paid[l];
                over(w, l, one);
            } else if (left == 0 || w.gone[l] == sale.longest) over(w, l, -1);
        }
        w.minute++;
        return bits;
    }
    boolean speaks(World w, List<Clause> rule, int b, int l) {
        if (rule == null) return w.gone[l] >= sale.worth[b][l] || w.gone[l] >= w.purse[b];
        Who who = new Who(sale, w, b, l);
        for (Clause c : rule) if (c.test == null || c.test.of(who)) return c.sum.of(who) > 0;
        return false;
    }
    void over(World w, int l, int who) {
        w.stage[l] = 2;
        w.owner[l] = who;
        for (int b = 0; b < 5; b++) if (w.seat[b] == l) { w.seat[b] = -1; w.silent[b] = false; }
    }
    int step(World w) { return step(w, inForce(), b -> false, -1); }
    int ring(World w, int l) {
        int n = 0, one = -1;
        for (int b = 0; b < sale.bidders; b++) if (w.seat[b] == l) { n++; one = b; w.silent[b] = true; }
        w.stage[l] = 1;
        if (n == 1) over(w, l, one);
        return n;
    }
    int lots(World w, int stage) {
        int bits = 0;
        for (int l = 0; l < sale.lots; l++) if (w.stage[l] == stage) bits |= 1 << l;
        return bits;
    }
    void act() { past.add(world.copy()); if (past.size() > 20) past.remove(0); }

    // ---- the face --------------------------------------------------------------------------------------------

    int feed(int... five) {
        if (tape.length() + 20 > 400) return -1;
        for (int n : five) for (int s = 24; s >= 0; s -= 8) tape.append((char) (n >>> s & 255));
        return tape.length();
    }
    int end(int n) {
        if (n < 0 || n > tape.length()) return -1;
        tape.setLength(n);
        return n;
    }
    int sale() {
        try {
            sale = new Parser(tape.toString()).sale();
        } catch (Fault f) {
            return -2 - f.value;
        }
        tape.setLength(0);
        world = World.of(sale);
        logs = new ArrayList<>();
        past.clear();
        return sale.lots;
    }
    int rule() {
        if (rules.size() == 6) return -1;
        String text = tape.toString();
        tape.setLength(0);
        try {
            rules.add(new Parser(text).rule());
        } catch (Fault f) {
            return -2 - f.value;
        }
        return rules.size() - 1;
    }
    int force(int r) {
        if (r < -1 || r >= rules.size()) return -2;
        int was = force;
        force = r;
        return was;
    }
    int bidder(int b, int what) {
        if (!B(b) || what < 0 || what > 6) return -1000;
        int bits = 0;
        for (int l = 0; l < 3; l++) if (world.owner[l] == b) bits |= 1 << l;
        return new int[] {world.purse[b], world.patience[b], world.seat[b], world.silent[b] ? 1 : 0, world.tricked[b], bits, gain(world, b)}[what];
    }
    int lot(int l, int what) {
        if (!L(l) || what < 0 || what > 5) return -2;
        int sit = 0, silent = 0;
        for (int b = 0; b < sale.bidders; b++) if (world.seat[b] == l) { sit |= 1 << b; if (world.silent[b]) silent |= 1 << b; }
        return new int[] {world.stage[l], world.gone[l], world.owner[l], world.paid[l], sit, silent}[what];
    }
    int worth(int b, int l) { return B(b) && L(l) ? sale.worth[b][l] : -1; }
    int trick(int t, int what) { return !T(t) || what < 0 || what > 1 ? -1 : what == 0 ? sale.price[t] : sale.effect[t]; }
    int minute() {
        if (lots(world, 1) == 0 || world.minute == 9999) return -1;
        act();
        return step(world);
    }
    int sit(int b, int l) {
        if (!B(b) || world.silent[b]) return -2;
        if (l != -1 && (!L(l) || world.stage[l] != 0 || world.seat[b] == l)) return -2;
        act();
        int was = world.seat[b];
        world.seat[b] = l;
        return was;
    }
    int bell(int l) {
        if (!L(l) || world.stage[l] != 0 || lot(l, 4) == 0) return -1;
        act();
        return ring(world, l);
    }
    int play(int one, int other, int t) {
        if (!B(one) || !B(other) || one == other || !T(t) || !canPlay(world, one, other, t)) return -1;
        act();
        play(world, one, other, t);
        return world.patience[other];
    }
    boolean canPlay(World w, int one, int other, int t) {
        return w.purse[one] >= sale.price[t] && w.silent[other] && w.patience[other] > sale.effect[t];
    }
    void play(World w, int one, int other, int t) {
        w.purse[one] -= sale.price[t];
        w.patience[other] -= sale.effect[t];
        w.tricked[other]++;
    }
    int fire(int l) {
        if (!L(l) || world.stage[l] != 1) return -1;
        act();
        int was = world.gone[l];
        world.gone[l] = 0;
        world.stage[l] = 0;
        for (int b = 0; b < 5; b++) if (world.seat[b] == l) world.silent[b] = false;
        return was;
    }
    int undo() {
        if (past.isEmpty()) return -1;
        world = past.remove(past.size() - 1);
        return past.size();
    }
    int ahead(int number, int n, int what) {
        if (!told() || n < 0 || n > 300 || what < 0 || what > 2 || !(what == 0 ? L(number) : B(number))) return -1000;
        World w = world.copy();
        for (int k = 0; k < n; k++) step(w);
        return what == 0 ? w.owner[number] : what == 1 ? w.patience[number] : gain(w, number);
    }
    int ends(int l, int what) {
        if (!L(l) || world.stage[l] != 1 || what < 0 || what > 2) return -2;
        World w = world.copy();
        int n = 0;
        while (w.stage[l] == 1) { step(w); n++; }
        return what == 0 ? n : what == 1 ? w.owner[l] : w.paid[l];
    }
    int hold(int b, int what) {
        if (!B(b) || !world.silent[b] || what < 0 || what > 1) return -1000;
        int l = world.seat[b], best = Integer.MIN_VALUE, at = -1;
        for (int h = 0; h <= sale.longest; h++) {
            World w = world.copy();
            while (w.stage[l] == 1) {
                boolean now = w.gone[l] >= h;
                step(w, inForce(), one -> one == b && now, b);
            }
            if (gain(w, b) > best) { best = gain(w, b); at = h; }
        }
        return what == 0 ? at : best;
    }
    int rests(int one, int other, int l, int what) {
        if (!B(one) || !B(other) || one == other || !L(l) || what < 0 || what > 2) return -1;
        int many = 0, i1 = -2, j1 = -2;
        for (int i = 0; i < 100; i += 10) for (int j = 0; j < 100; j += 10) {
            boolean rests = true;
            for (int k = 0; k < 100; k += 10) {
                if (duel(one, l, k, j) > duel(one, l, i, j) || duel(other, l, k, i) > duel(other, l, j, i)) rests = false;
            }
            if (rests && many++ == 0) { i1 = i; j1 = j; }
        }
        return what == 0 ? many : what == 1 ? i1 : j1;
    }
    int duel(int b, int l, int mine, int theirs) { return mine > theirs ? sale.worth[b][l] - theirs : 0; }

    int seats(int what) {
        if (!told() || what < 0 || what > 5) return -1000;
        int[] row = new int[5], best = new int[6];
        best[0] = Integer.MIN_VALUE;
        seatFrom(0, row, best);
        return best[what];
    }
    void seatFrom(int b, int[] row, int[] best) {
        if (b == 5) {
            World w = world.copy();
            for (int k = 0; k < sale.bidders; k++) if (!w.silent[k]) w.seat[k] = row[k];
            for (int l = 0; l < sale.lots; l++) {
                boolean any = false;
                for (int k = 0; k < sale.bidders; k++) any |= w.seat[k] == l;
                if (w.stage[l] == 0 && any) ring(w, l);
            }
            for (int k = 0; k < 300 && lots(w, 1) != 0; k++) step(w);
            int all = 0;
            for (int k = 0; k < sale.bidders; k++) all += gain(w, k);
            if (all > best[0]) { best[0] = all; System.arraycopy(row, 0, best, 1, 5); }
            return;
        }
        row[b] = -2;
        if (b >= sale.bidders || world.silent[b]) { seatFrom(b + 1, row, best); return; }
        for (int l = -1; l < sale.lots; l++) {
            if (l >= 0 && world.stage[l] != 0) continue;
            row[b] = l;
            seatFrom(b + 1, row, best);
        }
    }
    int tricks(int b, int what) {
        if (!B(b) || !world.silent[b] || what < 0 || what > 5) return -4;
        int[] row = new int[5], best = new int[6];
        best[0] = Integer.MAX_VALUE;
        trickFrom(0, b, row, best);
        return best[0] == Integer.MAX_VALUE ? -3 : best[what];
    }
    void trickFrom(int o, int b, int[] row, int[] best) {
        if (o == 5) {
            World w = world.copy();
            int l = w.seat[b], before = w.purse[b];
            for (int k = 0; k < 5; k++) if (row[k] >= 0 && canPlay(w, b, k, row[k])) play(w, b, k, row[k]);
            int cost = before - w.purse[b];
            while (w.stage[l] == 1) step(w);
            if (w.owner[l] == b && cost < best[0]) { best[0] = cost; System.arraycopy(row, 0, best, 1, 5); }
            return;
        }
        row[o] = -2;
        if (o == b || !B(o) || !world.silent[o] || world.seat[o] != world.seat[b]) { trickFrom(o + 1, b, row, best); return; }
        for (int t = -1; t < sale.tricks; t++) { row[o] = t; trickFrom(o + 1, b, row, best); }
    }
    int ring(int set, int what) {
        if (what < 0 || what > 1 || set < 0 || set > 31) return -1000;
        List<Integer> some = new ArrayList<>();
        for (int b = 0; b < 5; b++) if ((set >> b & 1) == 1) some.add(b);
        if (some.size() < 2) return -1000;
        for (int b : some) if (!B(b) || !world.silent[b] || world.seat[b] != world.seat[some.get(0)]) return -1000;
        int l = world.seat[some.get(0)], top = some.get(0);
        for (int b : some) if (sale.worth[b][l] > sale.worth[top][l]) top = b;
        int keeper = top;
        World with = world.copy(), without = world.copy();
        step(with, inForce(), b -> some.contains(b) && b != keeper, -1);
        while (with.stage[l] == 1) step(with);
        while (without.stage[l] == 1) step(without);
        int a = 0, c = 0;
        for (int b : some) { a += gain(with, b); c += gain(without, b); }
        if (what == 0) return a - c;
        int share = (int) Math.floor((double) a / some.size());
        for (int b : some) if (share < gain(without, b)) return 0;
        return 1;
    }
    int breath(int b) {
        if (!B(b) || !world.silent[b]) return -1;
        int l = world.seat[b];
        for (int p = 1; p <= 300; p++) {
            World w = world.copy();
            w.patience[b] = p;
            while (w.stage[l] == 1) step(w);
            if (w.owner[l] == b) return p;
        }
        return -2;
    }
    int log(int l, int b, int coins) {
        if (l == -1) { logs = new ArrayList<>(); return 0; }
        if (!L(l) || b != -1 && !B(b) || coins < 0 || coins > 999 || logs.size() == 10) return -2;
        logs = new ArrayList<>(logs);
        logs.add(new int[] {l, b, coins});
        return logs.size();
    }
    int[] sold(List<Clause> rule, int l) {
        World w = World.of(sale);
        if (sale.bidders == 0) return new int[] {-1, 0};
        for (int b = 0; b < sale.bidders; b++) w.seat[b] = l;
        ring(w, l);
        while (w.stage[l] == 1) step(w, rule, b -> false, -1);
        return new int[] {w.owner[l], w.paid[l]};
    }
    List<Integer> fitting() {
        List<Integer> all = new ArrayList<>();
        for (int r = -1; r < rules.size(); r++) {
            boolean so = true;
            for (int[] log : logs) {
                int[] got = sold(r < 0 ? null : rules.get(r), log[0]);
                so &= got[0] == log[1] && (got[0] == -1 || got[1] == log[2]);
            }
            if (so) all.add(r);
        }
        return all;
    }
    int ruled(int what) {
        if (!told() || what < 0 || what > 1) return -3;
        List<Integer> all = fitting();
        return what == 0 ? all.size() : all.isEmpty() ? -2 : all.get(0);
    }
    int look(int what) {
        if (!told() || what < 0 || what > 1) return -1;
        List<Integer> all = fitting();
        if (all.isEmpty() || sale.lots == 0) return -2;
        int best = -1, least = Integer.MAX_VALUE;
        for (int l = 0; l < sale.lots; l++) {
            java.util.HashMap<String, Integer> many = new java.util.HashMap<>();
            for (int r : all) many.merge(Arrays.toString(sold(r < 0 ? null : rules.get(r), l)), 1, Integer::sum);
            int most = many.values().stream().mapToInt(v -> v).max().getAsInt();
            if (most < least) { least = most; best = l; }
        }
        return what == 0 ? best : least;
    }
    int seed(int n) {
        if (n < 0) return -1;
        int was = x;
        x = n;
        return was;
    }
    int coughs(int m, int n, int p, int what) {
        if (!told() || m < 1 || m > 10 || n < 1 || n > 60 || p < 0 || p > 100 || what < 0 || what > 1) return -1;
        long[] y = {x};
        int lots = 0, coins = 0;
        for (int k = 0; k < m; k++) {
            World w = world.copy();
            for (int i = 0; i < n; i++) {
                boolean[] cough = new boolean[5];
                for (int b = 0; b < sale.bidders; b++) {
                    if (!w.silent[b]) continue;
                    y[0] = (y[0] * 1103515245L + 12345L) & 0x7fffffffL;
                    cough[b] = (y[0] >> 16) % 100 < p;
                }
                step(w, inForce(), b -> cough[b], -1);
            }
            for (int l = 0; l < 3; l++) if (world.stage[l] == 1 && w.stage[l] == 2 && w.owner[l] >= 0) { lots++; coins += w.paid[l]; }
        }
        return what == 0 ? lots : coins;
    }
    int count(int what) {
        int silent = 0, paid = 0;
        for (int b = 0; b < 5; b++) if (world.silent[b]) silent |= 1 << b;
        for (int l = 0; l < 3; l++) paid += world.paid[l];
        int[] all = {sale.longest, sale.bidders, sale.lots, sale.tricks, rules.size(), force, world.minute, silent,
            lots(world, 1), lots(world, 2), paid, logs.size(), past.size(), x, tape.length()};
        return what < 0 || what > 14 ? -1 : all[what];
    }
    int image(int k) {
        if (k < 0 || k > 3) return -1;
        images[k] = new Kept(sale, world.copy(), logs, x, force);
        return world.minute;
    }
    int back(int k) {
        if (k < 0 || k > 3 || images[k] == null) return -1;
        Kept i = images[k];
        sale = i.sale;
        world = i.world.copy();
        logs = i.logs;
        x = i.x;
        force = i.force;
        past.clear();
        return world.minute;
    }
}
