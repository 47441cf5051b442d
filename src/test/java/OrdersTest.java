/** Promises 12 to 15: the store, and orders. */
public final class OrdersTest {
    private static final Check check = new Check();

    public static void main(String[] args) {
        promise12Store();
        promise13AddOrder();
        promise14FillTakesTheSmallestFirst();
        promise14FillsLateOrders();
        promise15Order();
        check.end();
    }

    /** Of kind 2, in the store: 5 candles each of the sizes 1, 2 and 3, and of kind 1: 4 of size 1. */
    private static CandleDip stocked() {
        CandleDip x = Workshop.steady();
        Workshop.hung(x, 2, 5, 6);
        Workshop.harvest(x, 0, 4);
        Workshop.harvest(x, 0, 7);
        Workshop.harvest(x, 0, 11);
        Workshop.hung(x, 1, 4, 7);
        Workshop.harvest(x, 1, 4);
        return x;
    }

    private static void promise12Store() {
        CandleDip x = stocked();
        int[][] due = {{0, 0, 0, 0}, {4, 0, 0, 0}, {5, 5, 5, 0}, {0, 0, 0, 0}};
        for (int kind = 0; kind <= 3; kind++) {
            for (int size = 1; size <= 4; size++) {
                int askedKind = kind;
                int askedSize = size;
                check.due("12: store(" + kind + ", " + size + ")", due[kind][size - 1],
                    () -> x.store(askedKind, askedSize));
            }
        }
        check.due("12: candles in all", 19, () -> x.count(3));
    }

    private static void promise13AddOrder() {
        CandleDip x = new CandleDip();
        check.due("13: the first order", 0, () -> x.addOrder(3, 9, 60, 1000));
        check.due("13: the second order", 1, () -> x.addOrder(0, 1, 1, 0));
        int[][] due = {{3, 9, 60, 1000, 0, 0}, {0, 1, 1, 0, 0, 0}};
        for (int order = 0; order <= 1; order++) {
            for (int what = 0; what <= 5; what++) {
                int asked = order;
                int askedWhat = what;
                check.due("13: order(" + order + ", " + what + ") when new", due[order][what],
                    () -> x.order(asked, askedWhat));
            }
        }
        check.due("13: orders", 2, () -> x.count(4));
        check.due("13: no quarter goes by", 0, () -> x.count(0));
    }

    private static void promise14FillTakesTheSmallestFirst() {
        CandleDip x = stocked();
        x.addOrder(2, 2, 7, 900);
        x.addOrder(2, 1, 6, 900);
        x.addOrder(1, 1, 4, 900);
        x.addOrder(2, 1, 2, 900);
        check.due("14: 7 of 19", 12, () -> x.fill(0));
        check.due("14: size 1 is too small", 5, () -> x.store(2, 1));
        check.due("14: all of size 2", 0, () -> x.store(2, 2));
        check.due("14: 2 of size 3", 3, () -> x.store(2, 3));
        check.due("14: it is filled", 1, () -> x.order(0, 4));
        check.due("14: one is filled", 1, () -> x.count(5));
        check.due("14: 6 of 12", 6, () -> x.fill(1));
        check.due("14: all of size 1", 0, () -> x.store(2, 1));
        check.due("14: 1 more of size 3", 2, () -> x.store(2, 3));
        check.due("14: 2 of 6, all that there are of kind 2", 4, () -> x.fill(3));
        check.due("14: none of size 3", 0, () -> x.store(2, 3));
        check.due("14: other kinds stay", 4, () -> x.store(1, 1));
        check.due("14: the last ones", 0, () -> x.fill(2));
        check.due("14: four are filled", 4, () -> x.count(5));
    }

    private static void promise14FillsLateOrders() {
        CandleDip x = stocked();
        int today = x.count(0) / 40;
        x.addOrder(2, 1, 5, today);
        x.pass(40);
        check.due("14: it is late", 2, () -> x.order(0, 4));
        check.due("14: one is late", 1, () -> x.count(6));
        check.due("14: a late one", 14, () -> x.fill(0));
        check.due("14: it is filled then", 1, () -> x.order(0, 4));
        check.due("14: none is late", 0, () -> x.count(6));
        x.pass(40);
        check.due("14: a filled one does not become late", 1, () -> x.order(0, 4));
    }

    private static void promise15Order() {
        CandleDip x = stocked();
        int today = x.count(0) / 40;
        x.addOrder(2, 3, 5, today);
        x.addOrder(2, 3, 6, today);
        x.addOrder(1, 1, 4, today + 1);
        int[][] ahead = {{2, 3, 5, today, 0, 1}, {2, 3, 6, today, 0, 0}, {1, 1, 4, today + 1, 0, 1}};
        checkOrders(x, "ahead", ahead);
        x.pass(40 - x.count(0) % 40);
        int[][] later = {{2, 3, 5, today, 2, 1}, {2, 3, 6, today, 2, 0}, {1, 1, 4, today + 1, 0, 1}};
        checkOrders(x, "a day later", later);
        x.fill(0);
        x.fill(2);
        int[][] filled = {{2, 3, 5, today, 1, 0}, {2, 3, 6, today, 2, 0}, {1, 1, 4, today + 1, 1, 0}};
        checkOrders(x, "with two filled", filled);
        Workshop.harvest(x, 0, 11);
        Workshop.harvest(x, 0, 11);
        check.due("15: a filled one can't be filled", 0, () -> x.order(0, 5));
        check.due("15: a late one can", 1, () -> x.order(1, 5));
    }

    private static void checkOrders(CandleDip x, String when, int[][] due) {
        for (int order = 0; order < due.length; order++) {
            for (int what = 0; what <= 5; what++) {
                int asked = order;
                int askedWhat = what;
                check.due("15: order(" + order + ", " + what + ") " + when, due[order][what],
                    () -> x.order(asked, askedWhat));
            }
        }
    }
}
