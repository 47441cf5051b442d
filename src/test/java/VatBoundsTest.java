/** Promises 1 to 4 at their bounds: each test tells in its comment which sentence of the document it holds. */
public final class VatBoundsTest {
    private static final Check check = new Check();

    public static void main(String[] args) {
        promise01WithoutFrames();
        promise01WithoutOrders();
        promise01EmptyVat();
        promise01EmptyStore();
        promise01QuarterZero();
        promise02WaxIsOneTo5000();
        promise02NoMoreThan20000();
        promise02ArgumentIsNamedAheadOfState();
        promise02AllWaxSharesTheHeat();
        promise02HeatIsCut();
        promise03LevelIsZeroTo5();
        promise03ReturnsTheLevelBefore();
        promise04WhatIsZeroTo3();
        promise04MeltedFrom60();
        promise04LeastAndGreatest();
        check.end();
    }

    /** "Creates a workshop without frames": no number is one of a frame. */
    private static void promise01WithoutFrames() {
        CandleDip x = new CandleDip();
        check.due("1: frames", 0, () -> x.count(1));
        check.due("1: frames that hang", 0, () -> x.count(2));
        for (int hook = 0; hook <= 11; hook++) {
            int asked = hook;
            check.due("1: hook(" + hook + ")", -1, () -> x.hook(asked));
        }
        check.due("1: advise()", -1, x::advise);
        check.due("1: mean()", 0.0, x::mean);
        check.due("1: the first frame has the number 0", 0, () -> x.addFrame(0, 1));
        check.noIndex("1: hang(0, 0)", CandleDip::new, y -> y.hang(0, 0));
        check.noIndex("1: layAside(0)", CandleDip::new, y -> y.layAside(0));
        check.noIndex("1: dip(0)", CandleDip::new, y -> y.dip(0));
        check.noIndex("1: cutOff(0)", CandleDip::new, y -> y.cutOff(0));
        check.noIndex("1: frame(0, 0)", CandleDip::new, y -> y.frame(0, 0));
        check.noIndex("1: would(0, 1)", CandleDip::new, y -> y.would(0, 1));
        check.noIndex("1: dipsTo(0, 0, 1)", CandleDip::new, y -> y.dipsTo(0, 0, 1));
        check.noIndex("1: bestRest(0, 1)", CandleDip::new, y -> y.bestRest(0, 1));
    }

    /** "Creates a workshop without .. orders": no number is one of an order. */
    private static void promise01WithoutOrders() {
        CandleDip x = new CandleDip();
        check.due("1: orders", 0, () -> x.count(4));
        check.due("1: orders that are filled", 0, () -> x.count(5));
        check.due("1: orders that are late", 0, () -> x.count(6));
        check.due("1: possible()", 0, x::possible);
        check.due("1: the first order has the number 0", 0, () -> x.addOrder(0, 1, 1, 0));
        check.noIndex("1: fill(0)", CandleDip::new, y -> y.fill(0));
        check.noIndex("1: order(0, 0)", CandleDip::new, y -> y.order(0, 0));
    }

    /**
     * "with an empty vat"; "wax, 0 to 20000 (0, at first), with a heat, 0 to 120 (20, at first)", "a level, 0 to 5
     * (0, at first)".
     */
    private static void promise01EmptyVat() {
        CandleDip x = new CandleDip();
        int[] due = {0, 20, 0, 0};
        for (int what = 0; what <= 3; what++) {
            int asked = what;
            check.due("1: vat(" + what + ")", due[what], () -> x.vat(asked));
        }
        check.due("1: dips in all", 0, () -> x.count(7));
    }

    /** "with an empty .. store". */
    private static void promise01EmptyStore() {
        CandleDip x = new CandleDip();
        for (int i = 0; i < 36; i++) {
            int kind = i / 9;
            int size = i % 9 + 1;
            check.due("1: store(" + kind + ", " + size + ")", 0, () -> x.store(kind, size));
        }
        check.due("1: candles in the store", 0, () -> x.count(3));
        check.due("1: candles that were thrown away", 0, () -> x.count(8));
    }

    /** "at the quarter 0": the day 0 has all its 40 quarters still ahead. */
    private static void promise01QuarterZero() {
        CandleDip x = new CandleDip();
        check.due("1: the quarter", 0, () -> x.count(0));
        x.addOrder(0, 1, 1, 0);
        x.pass(39);
        check.due("1: the day 0 lasts 39 quarters", 0, () -> x.order(0, 4));
        x.pass(1);
        check.due("1: the day 0 ends with 40 quarters", 2, () -> x.order(0, 4));
    }

    /** "Throws IllegalArgumentException if wax is not 1 to 5000". */
    private static void promise02WaxIsOneTo5000() {
        for (int wax : new int[] {1, 5000}) {
            CandleDip x = new CandleDip();
            check.due("2: melt(" + wax + ")", 20, () -> x.melt(wax));
            check.due("2: wax behind melt(" + wax + ")", wax, () -> x.vat(0));
        }
        for (int wax : Check.outside(1, 5000)) {
            check.noArgument("2: melt(" + wax + ") into an empty vat", CandleDip::new, x -> x.melt(wax));
            check.noArgument("2: melt(" + wax + ") into a vat with wax", Workshop::busy, x -> x.melt(wax));
        }
    }

    /** "Throws IllegalStateException if there would be more than 20000". */
    private static void promise02NoMoreThan20000() {
        int[][] wax = {{15000, 5000}, {15001, 4999}, {19999, 1}};
        for (int[] w : wax) {
            String all = "2: melt at " + w[0] + ": ";
            CandleDip x = Workshop.heated(w[0], 0, 1);
            check.due(all + w[1], 20, () -> x.melt(w[1]));
            check.due(all + "a full vat", 20000, () -> x.vat(0));
            if (w[1] < 5000) {
                check.noState(all + (w[1] + 1), () -> Workshop.heated(w[0], 1, 9), y -> y.melt(w[1] + 1));
            }
        }
        check.noState("2: melt(1) at 20000", Workshop::steady, x -> x.melt(1));
        check.noState("2: melt(5000) at 20000", Workshop::steady, x -> x.melt(5000));
        check.noState("2: melt(5000) at 15001", () -> Workshop.heated(15001, 2, 9), x -> x.melt(5000));
    }

    /** "If several exceptions apply, the one that is named first is thrown": in melt the argument, then the state. */
    private static void promise02ArgumentIsNamedAheadOfState() {
        for (int wax : new int[] {5001, Integer.MAX_VALUE}) {
            check.noArgument("2: melt(" + wax + ") at 20000", Workshop::steady, x -> x.melt(wax));
        }
    }

    /**
     * "the heat becomes (heat * wax that was there + 20 * wax thrown in) / all wax": from an empty vat to a full
     * one.
     */
    private static void promise02AllWaxSharesTheHeat() {
        CandleDip empty = Workshop.hot(0);
        check.due("2: a hot empty vat", 120, () -> empty.vat(1));
        check.due("2: (120 * 0 + 20 * 1) / 1", 20, () -> empty.melt(1));
        CandleDip full = Workshop.hot(15000);
        check.due("2: (120 * 15000 + 20 * 5000) / 20000", 95, () -> full.melt(5000));
        check.due("2: the heat behind it", 95, () -> full.vat(1));
        CandleDip least = Workshop.hot(1);
        check.due("2: (120 * 1 + 20 * 99) / 100", 21, () -> least.melt(99));
    }

    /** "/ is cut towards 0", in the heat of mixed wax. */
    private static void promise02HeatIsCut() {
        CandleDip nearly = Workshop.hot(19999);
        check.due("2: (120 * 19999 + 20 * 1) / 20000", 119, () -> nearly.melt(1));
        CandleDip drop = Workshop.hot(1);
        check.due("2: (120 * 1 + 20 * 100) / 101", 20, () -> drop.melt(100));
    }

    /** "Throws IllegalArgumentException if level is not 0 to 5". */
    private static void promise03LevelIsZeroTo5() {
        for (int level : new int[] {0, 5}) {
            CandleDip x = Workshop.busy();
            check.due("3: setFire(" + level + ")", 1, () -> x.setFire(level));
            check.due("3: the level behind it", level, () -> x.vat(2));
        }
        for (int level : Check.outside(0, 5)) {
            check.noArgument("3: setFire(" + level + ") when new", CandleDip::new, x -> x.setFire(level));
            check.noArgument("3: setFire(" + level + ")", Workshop::busy, x -> x.setFire(level));
        }
    }

    /** "Returns the level before": of the least and the greatest, and of the same again. */
    private static void promise03ReturnsTheLevelBefore() {
        CandleDip x = new CandleDip();
        check.due("3: 0 at first", 0, () -> x.setFire(5));
        check.due("3: 5 again", 5, () -> x.setFire(5));
        check.due("3: from 5 to 0", 5, () -> x.setFire(0));
        check.due("3: 0 again", 0, () -> x.setFire(0));
    }

    /** "Throws IndexOutOfBoundsException if what is not 0 to 3". */
    private static void promise04WhatIsZeroTo3() {
        CandleDip x = Workshop.steady();
        check.due("4: vat(0)", 20000, () -> x.vat(0));
        check.due("4: vat(3)", 1, () -> x.vat(3));
        for (int what : Check.outside(0, 3)) {
            check.noIndex("4: vat(" + what + ") when new", CandleDip::new, y -> y.vat(what));
            check.noIndex("4: vat(" + what + ")", Workshop::busy, y -> y.vat(what));
        }
    }

    /** "3 1 if its wax is melted, else 0"; "Wax is melted, if the heat is 60 or more", that of an empty vat too. */
    private static void promise04MeltedFrom60() {
        for (int heat = 58; heat <= 62; heat++) {
            int due = heat >= 60 ? 1 : 0;
            CandleDip x = Workshop.atHeat(heat);
            check.due("4: the heat", heat, () -> x.vat(1));
            check.due("4: melted at " + heat, due, () -> x.vat(3));
        }
        CandleDip empty = Workshop.heated(0, 1, 10);
        check.due("4: an empty vat of 58", 0, () -> empty.vat(3));
        empty.pass(1);
        check.due("4: the heat of an empty vat", 60, () -> empty.vat(1));
        check.due("4: an empty vat of 60", 1, () -> empty.vat(3));
    }

    /**
     * "It holds wax, 0 to 20000", "a heat, 0 to 120", "a level, 0 to 5": the greatest that vat() tells, and
     * the least. No heat under 20 can be told: 20 is that of new wax, and each quarter keeps 20 or more.
     */
    private static void promise04LeastAndGreatest() {
        CandleDip least = new CandleDip();
        least.pass(400);
        check.due("4: no wax", 0, () -> least.vat(0));
        check.due("4: the least heat that can be", 20, () -> least.vat(1));
        check.due("4: no fire", 0, () -> least.vat(2));
        check.due("4: not melted", 0, () -> least.vat(3));
        CandleDip greatest = Workshop.hot(20000);
        check.due("4: the most wax", 20000, () -> greatest.vat(0));
        check.due("4: the greatest heat", 120, () -> greatest.vat(1));
        check.due("4: the greatest fire", 5, () -> greatest.vat(2));
        check.due("4: melted", 1, () -> greatest.vat(3));
    }
}
