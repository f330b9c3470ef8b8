import java.lang.management.ManagementFactory;
import java.lang.reflect.Method;
import java.util.Arrays;
import java.util.Comparator;
import java.util.Random;

/** Calls with any numbers in any state: none throws, all end, and none makes anything that stays in the room. */
public final class WildCalls {
    private static final String[] SALES = {"sale 300;bidder 999 300;bidder 999 300;bidder 999 300;bidder 999 300;bidder 999 300;lot;lot;lot;"
        + "trick 0 1;trick 1 2;trick 99 99;worth 0 0 300;worth 1 1 300;worth 2 2 300", "sale 5;bidder 3 3;bidder 4 4;lot;worth 0 0 3", "sale 9;lot",
        "sale 9;bidder 5 5"};
    private static final String[] RULES = {"speak 0", "speak minute - rooms * 50", "speak 1 if [not minute < 9 or best > 1] and others > 0",
        "speak 1" + "*rooms".repeat(58), "speak patience % 7 / tricked"};

    private static int number(Random draw) {
        switch (draw.nextInt(12)) {
            case 0: return Integer.MIN_VALUE;
            case 1: return Integer.MAX_VALUE;
            case 2: return draw.nextInt();
            case 3: return -1 - draw.nextInt(3);
            case 4: return draw.nextInt(400);
            default: return draw.nextInt(6);
        }
    }

    private static Object[][] madeArguments(Method[] calls, int[] order, Random draw) {
        Object[][] all = new Object[order.length][];
        for (int k = 0; k < order.length; k++) {
            all[k] = new Object[calls[order[k]].getParameterCount()];
            for (int j = 0; j < all[k].length; j++) all[k][j] = number(draw);
        }
        return all;
    }

    private static void wild(int runs) throws Exception {
        Method[] calls = Arrays.stream(SilentSale.class.getDeclaredMethods()).filter(m -> java.lang.reflect.Modifier.isPublic(m.getModifiers()))
            .sorted(Comparator.comparing(Method::getName)).toArray(Method[]::new);
        for (int run = 0; run < runs; run++) {
            Random draw = new Random(run);
            Bench t = new Bench("wild " + run);
            for (int k = 0; k < 3; k++) t.rule(RULES[draw.nextInt(RULES.length)], k);
            t.tape(SALES[draw.nextInt(SALES.length)]);
            if (draw.nextInt(8) != 0) t.sale.sale();
            for (int k = 0; k < 5; k++) t.sale.sit(k, draw.nextInt(3));
            t.sale.bell(draw.nextInt(3));
            int[] order = draw.ints(60, 0, calls.length).toArray();
            Object[][] arguments = madeArguments(calls, order, draw);
            for (int k = 0; k < order.length; k++) calls[order[k]].invoke(t.sale, arguments[k]);
        }
    }

    private static long bytes() {
        return ((com.sun.management.ThreadMXBean) ManagementFactory.getThreadMXBean()).getCurrentThreadAllocatedBytes();
    }

    private static int everyCall(SilentSale sale) {
        int sum = 0;
        for (int k = 0; k < 3; k++) {
            sum += sale.force(k % 2 - 1) + sale.bell(0) + sale.minute() + sale.play(0, 1, 0) + sale.ahead(0, 9, 0) + sale.ends(0, 0);
            sum += sale.hold(0, 0) + sale.rests(0, 1, 0, 0) + sale.seats(0) + sale.tricks(0, 0) + sale.ring(3, 0) + sale.breath(0);
            sum += sale.log(0, 0, 0) + sale.ruled(0) + sale.look(0) + sale.coughs(9, 9, 9, 0) + sale.image(0) + sale.back(0);
            sum += sale.feed(1, 1, 1, 1, 1) + sale.sale() + sale.rule() + sale.undo() + sale.fire(0) + sale.count(1);
        }
        return sum;
    }

    private static boolean room() {
        long made = 0;
        long later = 0;
        int sum = 0;
        // The first time the machine makes things of its own.
        for (int k = 0; k < 2; k++) {
            long before = bytes();
            SilentSale empty = new SilentSale();
            made = bytes() - before + empty.count(0);
            Bench t = new Bench("room");
            t.rule("speak 1 if [not minute < 9 or best > 1] and others > 0", 0).sale(SALES[0], 3).sit(0, 0, 0, 1, 1);
            long asking = bytes();
            long start = bytes();
            sum += everyCall(t.sale);
            // To ask for the bytes takes some, too.
            later = bytes() - start - (start - asking);
        }
        System.out.println("WildCalls: a new object takes " + made + " bytes, 72 calls take " + later + " more (" + sum + ")");
        return made < 80000 && later == 0;
    }

    public static void main(String[] args) throws Exception {
        wild(400);
        boolean small = room();
        System.out.println("WildCalls: " + (small ? "none threw" : "too much is made"));
        if (!small || Bench.wrong != 0) System.exit(1);
    }
}
