import java.util.Arrays;
import java.util.function.IntSupplier;

/** A sale on which calls are tried, with what is due told by hand. */
final class Bench {
    static int wrong = 0;
    /** Where the bytes of the tape stand among what count tells. */
    private static final int TAPE = 14;
    final SilentSale sale = new SilentSale();
    private final String name;

    Bench(String name) { this.name = name; }

    /** The answer to a text whose first fault is of this kind at this place. */
    static int fault(int place, int kind) { return -2 - (1 + 8 * place + kind); }

    void due(String what, int got, int want) {
        if (got != want) {
            wrong++;
            System.out.println(name + ": " + what + " answered " + got + ", due is " + want);
        }
    }

    /** A call that must answer this and change nothing that can be seen. */
    void dueIdle(String what, IntSupplier call, int want) {
        int[] before = seen();
        due(what, call.getAsInt(), want);
        if (!Arrays.equals(before, seen())) {
            wrong++;
            System.out.println(name + ": " + what + " changed something");
        }
    }

    int[] seen() {
        int[] all = new int[15 + 35 + 18 + 15 + 6];
        int n = 0;
        for (int k = 0; k < 15; k++) all[n++] = sale.count(k);
        for (int b = 0; b < 5; b++) for (int k = 0; k < 7; k++) all[n++] = sale.bidder(b, k);
        for (int l = 0; l < 3; l++) for (int k = 0; k < 6; k++) all[n++] = sale.lot(l, k);
        for (int b = 0; b < 5; b++) for (int l = 0; l < 3; l++) all[n++] = sale.worth(b, l);
        for (int t = 0; t < 3; t++) for (int k = 0; k < 2; k++) all[n++] = sale.trick(t, k);
        return all;
    }

    /** The tape holds this text and nothing else. */
    Bench tape(String text) {
        sale.end(0);
        int[] n = new int[5];
        for (int k = 0; k < text.length(); k += 20) {
            for (int j = 0; j < 20; j++) n[j / 4] = n[j / 4] << 8 | (k + j < text.length() ? text.charAt(k + j) & 255 : 0);
            sale.feed(n[0], n[1], n[2], n[3], n[4]);
        }
        due("end", sale.end(text.length()), text.length());
        return this;
    }

    Bench sale(String text, int want) {
        tape(text);
        due("sale of " + text, sale.sale(), want);
        return this;
    }

    Bench rule(String text, int want) {
        tape(text);
        due("rule of " + text, sale.rule(), want);
        return this;
    }

    void saleFault(String text, int place, int kind) {
        tape(text);
        dueIdle("sale of " + text, sale::sale, fault(place, kind));
    }

    /** Of a rule with a fault the tape is empty then, too; all else stays. */
    void ruleFault(String text, int place, int kind) {
        tape(text);
        int[] want = seen();
        want[TAPE] = 0;
        due("rule of " + text, sale.rule(), fault(place, kind));
        if (!Arrays.equals(want, seen())) {
            wrong++;
            System.out.println(name + ": rule of " + text + " left the tape, or changed something");
        }
    }

    /** What all benches of a test found; fails if one answer was wrong. */
    static void close(String test) {
        System.out.println(test + ": " + (wrong == 0 ? "all answers are as due" : wrong + " answers are not as due"));
        if (wrong != 0) System.exit(1);
    }

    Bench sit(int... lots) {
        for (int b = 0; b < lots.length; b++) if (lots[b] >= 0) sale.sit(b, lots[b]);
        return this;
    }

    Bench minutes(int n) {
        for (int k = 0; k < n; k++) sale.minute();
        return this;
    }
}
