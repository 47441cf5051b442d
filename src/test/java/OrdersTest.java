/** Promises 12 to 15: the store, and orders. */
public final class OrdersTest {
    private static final Check check = new Check();

    public static void main(String[] args) {
        promise12Store();
        promise12Refuses();
        promise13AddOrder();
        promise13Refuses();
        promise13DayIsNotEarlierThanToday();
        promise14FillTakesTheSmallestFirst();
        promise14FillsTheGreatestSize();
        promise14FillsLateOrders();
        promise14Refuses();
        promise15Order();
        promise15Refuses();
        check.end();
    }

    /** Of kind 2, in the store: 5 candles each of the sizes 1, 2 and 3, and of kind 1: 4 of size 1. */
    private static CandleDip stocked() {
        CandleDip x = Workshop.steady();
        Workshop.hung(x, 2, 5, 6);
        Workshop.harvest(x, 0, 4);
        Workshop.harvest(x, 0, 7);
        Workshop.harvest(x, 0, 11);
        Workshop.hung(x, 1, 4, 7);
        Workshop.harvest(x, 1, 4);
        return x;
    }

    private static void promise12Store() {
        CandleDip x = stocked();
        int[][] due = {{0, 0, 0, 0}, {4, 0, 0, 0}, {5, 5, 5, 0}, {0, 0, 0, 0}};
        for (int kind = 0; kind <= 3; kind++) {
            for (int size = 1; size <= 4; size++) {
                int askedKind = kind;
                int askedSize = size;
                check.due("12: store(" + kind + ", " + size + ")", due[kind][size - 1],
                    () -> x.store(askedKind, askedSize));
            }
        }
        check.due("12: candles in all", 19, () -> x.count(3));
    }

    private static void promise12Refuses() {
        CandleDip x = stocked();
        for (int bad : new int[] {-1, 10, Integer.MIN_VALUE, Integer.MAX_VALUE}) {
            check.refused("12: store(" + bad + ", 1)", x, IndexOutOfBoundsException.class, () -> x.store(bad, 1));
            check.refused("12: store(2, " + bad + ")", x, IndexOutOfBoundsException.class, () -> x.store(2, bad));
        }
        check.noIndex("12: store(4, 1)", () -> x.store(4, 1));
        check.noIndex("12: store(1, 0)", () -> x.store(1, 0));
        check.due("12: store(3, 9)", 0, () -> x.store(3, 9));
        check.due("12: store(0, 1)", 0, () -> x.store(0, 1));
    }

    private static void promise13AddOrder() {
        CandleDip x = new CandleDip();
        check.due("13: the first order", 0, () -> x.addOrder(3, 9, 60, 1000));
        check.due("13: the second order", 1, () -> x.addOrder(0, 1, 1, 0));
        int[][] due = {{3, 9, 60, 1000, 0, 0}, {0, 1, 1, 0, 0, 0}};
        for (int order = 0; order <= 1; order++) {
            for (int what = 0; what <= 5; what++) {
                int asked = order;
                int askedWhat = what;
                check.due("13: order(" + order + ", " + what + ") when new", due[order][what],
                    () -> x.order(asked, askedWhat));
            }
        }
        check.due("13: orders", 2, () -> x.count(4));
        check.due("13: no quarter goes by", 0, () -> x.count(0));
    }

    private static void promise13Refuses() {
        CandleDip x = new CandleDip();
        int[][] bad = {{-1, 1, 1, 0}, {4, 1, 1, 0}, {0, 0, 1, 0}, {0, 10, 1, 0}, {0, 1, 0, 0}, {0, 1, 61, 0},
            {0, 1, 1, -1}, {0, 1, 1, 1001}, {Integer.MIN_VALUE, 1, 1, 0}, {0, Integer.MAX_VALUE, 1, 0},
            {0, 1, Integer.MIN_VALUE, 0}, {0, 1, 1, Integer.MIN_VALUE}, {0, 1, 1, Integer.MAX_VALUE}};
        for (int round = 0; round < 2; round++) {
            for (int[] b : bad) {
                check.refused("13: addOrder(" + b[0] + ", " + b[1] + ", " + b[2] + ", " + b[3] + ")", x,
                    IllegalArgumentException.class, () -> x.addOrder(b[0], b[1], b[2], b[3]));
            }
            for (int i = 0; round == 0 && i < 20; i++) {
                int number = i;
                check.due("13: order number " + i, number, () -> x.addOrder(1, 2, 3, 4));
            }
        }
        check.refused("13: a 21st order", x, IllegalStateException.class, () -> x.addOrder(1, 2, 3, 4));
    }

    private static void promise13DayIsNotEarlierThanToday() {
        CandleDip x = new CandleDip();
        x.pass(39);
        check.due("13: day 0 in its last quarter", 0, () -> x.addOrder(0, 1, 1, 0));
        x.pass(1);
        check.refused("13: day 0 on day 1", x, IllegalArgumentException.class, () -> x.addOrder(0, 1, 1, 0));
        check.due("13: day 1 on day 1", 1, () -> x.addOrder(0, 1, 1, 1));
        for (int i = 0; i < 100; i++) {
            x.pass(400);
        }
        check.due("13: quarter of day 1001", 40040, () -> x.count(0));
        check.refused("13: no day is left", x, IllegalArgumentException.class, () -> x.addOrder(0, 1, 1, 1001));
        check.refused("13: day 1000 is over", x, IllegalArgumentException.class, () -> x.addOrder(0, 1, 1, 1000));
    }

    private static void promise14FillTakesTheSmallestFirst() {
        CandleDip x = stocked();
        x.addOrder(2, 2, 7, 900);
        x.addOrder(2, 1, 6, 900);
        x.addOrder(1, 1, 4, 900);
        x.addOrder(2, 1, 2, 900);
        check.due("14: 7 of 19", 12, () -> x.fill(0));
        check.due("14: size 1 is too small", 5, () -> x.store(2, 1));
        check.due("14: all of size 2", 0, () -> x.store(2, 2));
        check.due("14: 2 of size 3", 3, () -> x.store(2, 3));
        check.due("14: it is filled", 1, () -> x.order(0, 4));
        check.due("14: one is filled", 1, () -> x.count(5));
        check.due("14: 6 of 12", 6, () -> x.fill(1));
        check.due("14: all of size 1", 0, () -> x.store(2, 1));
        check.due("14: 1 more of size 3", 2, () -> x.store(2, 3));
        check.due("14: 2 of 6, all that there are of kind 2", 4, () -> x.fill(3));
        check.due("14: none of size 3", 0, () -> x.store(2, 3));
        check.due("14: other kinds stay", 4, () -> x.store(1, 1));
        check.due("14: the last ones", 0, () -> x.fill(2));
        check.due("14: four are filled", 4, () -> x.count(5));
    }

    private static void promise14FillsTheGreatestSize() {
        CandleDip x = Workshop.steady();
        Workshop.hung(x, 3, 2, 6);
        Workshop.grow(x, 0, 45);
        x.pass(10);
        check.due("14: size 9", 9, () -> x.cutOff(0));
        x.addOrder(3, 9, 1, 900);
        x.addOrder(3, 1, 1, 900);
        check.due("14: an order of size 9", 1, () -> x.fill(0));
        check.due("14: one is left", 1, () -> x.store(3, 9));
        check.due("14: size 9 for an order of size 1", 0, () -> x.fill(1));
        check.due("14: none is left", 0, () -> x.store(3, 9));
    }

    private static void promise14FillsLateOrders() {
        CandleDip x = stocked();
        int today = x.count(0) / 40;
        x.addOrder(2, 1, 5, today);
        x.pass(40);
        check.due("14: it is late", 2, () -> x.order(0, 4));
        check.due("14: one is late", 1, () -> x.count(6));
        check.due("14: a late one", 14, () -> x.fill(0));
        check.due("14: it is filled then", 1, () -> x.order(0, 4));
        check.due("14: none is late", 0, () -> x.count(6));
        x.pass(40);
        check.due("14: a filled one does not become late", 1, () -> x.order(0, 4));
    }

    private static void promise14Refuses() {
        CandleDip x = stocked();
        check.refused("14: no order yet", x, IndexOutOfBoundsException.class, () -> x.fill(0));
        x.addOrder(2, 1, 15, 900);
        x.addOrder(2, 2, 11, 900);
        x.addOrder(2, 3, 6, 900);
        x.addOrder(2, 4, 1, 900);
        x.addOrder(0, 1, 1, 900);
        x.addOrder(2, 1, 16, 900);
        for (int order = 1; order <= 5; order++) {
            int asked = order;
            check.refused("14: not enough for " + order, x, IllegalStateException.class, () -> x.fill(asked));
        }
        for (int order : new int[] {-1, 6, 20, Integer.MIN_VALUE, Integer.MAX_VALUE}) {
            check.refused("14: fill(" + order + ")", x, IndexOutOfBoundsException.class, () -> x.fill(order));
        }
        check.due("14: just enough", 4, () -> x.fill(0));
        check.refused("14: filled", x, IllegalStateException.class, () -> x.fill(0));
        Workshop.harvest(x, 0, 4);
        x.addOrder(2, 1, 1, 900);
        check.due("14: another one", 8, () -> x.fill(6));
        check.refused("14: filled, with candles in the store", x, IllegalStateException.class, () -> x.fill(6));
    }

    private static void promise15Order() {
        CandleDip x = stocked();
        int today = x.count(0) / 40;
        x.addOrder(2, 3, 5, today);
        x.addOrder(2, 3, 6, today);
        x.addOrder(1, 1, 4, today + 1);
        int[][] ahead = {{2, 3, 5, today, 0, 1}, {2, 3, 6, today, 0, 0}, {1, 1, 4, today + 1, 0, 1}};
        checkOrders(x, "ahead", ahead);
        x.pass(40 - x.count(0) % 40);
        int[][] later = {{2, 3, 5, today, 2, 1}, {2, 3, 6, today, 2, 0}, {1, 1, 4, today + 1, 0, 1}};
        checkOrders(x, "a day later", later);
        x.fill(0);
        x.fill(2);
        int[][] filled = {{2, 3, 5, today, 1, 0}, {2, 3, 6, today, 2, 0}, {1, 1, 4, today + 1, 1, 0}};
        checkOrders(x, "with two filled", filled);
        Workshop.harvest(x, 0, 11);
        Workshop.harvest(x, 0, 11);
        check.due("15: a filled one can't be filled", 0, () -> x.order(0, 5));
        check.due("15: a late one can", 1, () -> x.order(1, 5));
    }

    private static void checkOrders(CandleDip x, String when, int[][] due) {
        for (int order = 0; order < due.length; order++) {
            for (int what = 0; what <= 5; what++) {
                int asked = order;
                int askedWhat = what;
                check.due("15: order(" + order + ", " + what + ") " + when, due[order][what],
                    () -> x.order(asked, askedWhat));
            }
        }
    }

    private static void promise15Refuses() {
        CandleDip x = new CandleDip();
        check.noIndex("15: no order yet", () -> x.order(0, 0));
        x.addOrder(0, 1, 1, 0);
        for (int bad : new int[] {-1, 6, 20, Integer.MIN_VALUE, Integer.MAX_VALUE}) {
            check.refused("15: order(" + bad + ", 0)", x, IndexOutOfBoundsException.class, () -> x.order(bad, 0));
            check.refused("15: order(0, " + bad + ")", x, IndexOutOfBoundsException.class, () -> x.order(0, bad));
        }
        check.noIndex("15: order 1 of one", () -> x.order(1, 0));
    }
}
