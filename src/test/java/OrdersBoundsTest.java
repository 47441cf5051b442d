/** Promises 12 to 15 at their bounds: each test tells in its comment which sentence of the document it holds. */
public final class OrdersBoundsTest {
    private static final Check check = new Check();

    public static void main(String[] args) {
        promise12KindIsZeroTo3();
        promise12SizeIsOneTo9();
        promise12HowMany();
        promise13KindIsZeroTo3();
        promise13SizeIsOneTo9();
        promise13ManyIsOneTo60();
        promise13DayIsNotEarlierThanToday();
        promise13DayIsNotMoreThan1000();
        promise13NoDayIsLeft();
        promise13AtMostTwenty();
        promise13ArgumentIsNamedAheadOfState();
        promise14NoSuchOrder();
        promise14IsFilled();
        promise14StoreHasNotEnough();
        promise14ManyUpTo60();
        promise14OrderIsNamedAheadOfState();
        promise14NotLessThanItsLeastSize();
        promise14SmallestSizeFirst();
        promise14GreatestSize();
        promise14OfItsKind();
        promise14LateOnes();
        promise14CandlesLeft();
        promise15NoSuchOrder();
        promise15WhatIsZeroTo5();
        promise15LeastAndGreatest();
        promise15OpenFilledLate();
        promise15CouldBeFilled();
        check.end();
    }

    /** In the store: so many candles of the kind 2 of each of the sizes 1, 2 and 3, at most 20; at the heat 74. */
    private static CandleDip stocked(int ofSize1, int ofSize2, int ofSize3) {
        CandleDip x = Workshop.steady();
        int[] many = {ofSize1, ofSize2, ofSize3};
        int[] dips = {4, 7, 11};
        for (int i = 0; i < 3; i++) {
            if (many[i] > 0) {
                int frame = Workshop.hung(x, 2, many[i], 6 + i);
                Workshop.harvest(x, frame, dips[i]);
            }
        }
        return x;
    }

    private static CandleDip stockedWithOrder(int size, int many) {
        CandleDip x = stocked(5, 4, 3);
        x.addOrder(2, size, many, 900);
        return x;
    }

    /** "Throws IndexOutOfBoundsException if kind is not 0 to 3", in store. */
    private static void promise12KindIsZeroTo3() {
        CandleDip x = Workshop.busy();
        check.due("12: store(0, 1)", 0, () -> x.store(0, 1));
        check.due("12: store(3, 9)", 0, () -> x.store(3, 9));
        for (int kind : Check.outside(0, 3)) {
            check.noIndex("12: store(" + kind + ", 1)", Workshop::busy, y -> y.store(kind, 1));
            check.noIndex("12: store(" + kind + ", 9) when new", CandleDip::new, y -> y.store(kind, 9));
        }
    }

    /** "Throws IndexOutOfBoundsException if .. size is not 1 to 9", in store. */
    private static void promise12SizeIsOneTo9() {
        CandleDip x = stocked(5, 0, 0);
        check.due("12: store(2, 1)", 5, () -> x.store(2, 1));
        check.due("12: store(2, 9)", 0, () -> x.store(2, 9));
        for (int size : Check.outside(1, 9)) {
            check.noIndex("12: store(2, " + size + ")", Workshop::busy, y -> y.store(2, size));
            check.noIndex("12: store(0, " + size + ") when new", CandleDip::new, y -> y.store(0, size));
            check.noIndex("12: store(3, " + size + ") when new", CandleDip::new, y -> y.store(3, size));
        }
        check.noIndex("12: store(4, 10)", Workshop::busy, y -> y.store(4, 10));
    }

    /**
     * "Returns how many candles of both are in the store": of the least kind and size, and of the greatest, and
     * beside them none.
     */
    private static void promise12HowMany() {
        CandleDip x = Workshop.thick(5000, 5, 40);
        x.pass(20);
        x.cutOff(0);
        check.due("12: of the kind 0 and the size 1", 5, () -> x.store(0, 1));
        check.due("12: of the kind 0 and the size 2", 0, () -> x.store(0, 2));
        check.due("12: of the kind 1 and the size 1", 0, () -> x.store(1, 1));
        CandleDip y = Workshop.steady();
        Workshop.hung(y, 3, 20, 6);
        check.due("12: a harvest of the size 9", 9, () -> Workshop.harvest(y, 0, 45));
        check.due("12: of the kind 3 and the size 9", 20, () -> y.store(3, 9));
        check.due("12: of the kind 3 and the size 8", 0, () -> y.store(3, 8));
        check.due("12: of the kind 2 and the size 9", 0, () -> y.store(2, 9));
    }

    /** "Throws IllegalArgumentException if kind is not 0 to 3", in addOrder. */
    private static void promise13KindIsZeroTo3() {
        for (int kind : new int[] {0, 3}) {
            CandleDip x = new CandleDip();
            check.due("13: of the kind " + kind, 0, () -> x.addOrder(kind, 1, 1, 0));
            check.due("13: its kind", kind, () -> x.order(0, 0));
        }
        for (int kind : Check.outside(0, 3)) {
            check.noArgument("13: of the kind " + kind + " when new", CandleDip::new, x -> x.addOrder(kind, 1, 1, 0));
            check.noArgument("13: of the kind " + kind, Workshop::busy, x -> x.addOrder(kind, 1, 1, 900));
        }
    }

    /** "Throws IllegalArgumentException if .. size is not 1 to 9", in addOrder. */
    private static void promise13SizeIsOneTo9() {
        for (int size : new int[] {1, 9}) {
            CandleDip x = new CandleDip();
            check.due("13: of the size " + size, 0, () -> x.addOrder(1, size, 1, 0));
            check.due("13: its least size", size, () -> x.order(0, 1));
        }
        for (int size : Check.outside(1, 9)) {
            check.noArgument("13: of the size " + size + " when new", CandleDip::new, x -> x.addOrder(1, size, 1, 0));
            check.noArgument("13: of the size " + size, Workshop::busy, x -> x.addOrder(1, size, 1, 900));
        }
    }

    /** "Throws IllegalArgumentException if .. many is not 1 to 60". */
    private static void promise13ManyIsOneTo60() {
        for (int many : new int[] {1, 60}) {
            CandleDip x = new CandleDip();
            check.due("13: of " + many, 0, () -> x.addOrder(1, 1, many, 0));
            check.due("13: how many", many, () -> x.order(0, 2));
        }
        for (int many : Check.outside(1, 60)) {
            check.noArgument("13: of " + many + " when new", CandleDip::new, x -> x.addOrder(1, 1, many, 0));
            check.noArgument("13: of " + many, Workshop::busy, x -> x.addOrder(1, 1, many, 900));
        }
    }

    /**
     * "Throws IllegalArgumentException if .. day is earlier than today": in the first and the last quarter of a day.
     */
    private static void promise13DayIsNotEarlierThanToday() {
        int[][] cases = {{1, 0}, {39, 0}, {40, 1}, {79, 1}, {80, 2}, {400, 10}};
        for (int[] c : cases) {
            String what = "13: at the quarter " + c[0] + ", of the day ";
            CandleDip x = new CandleDip();
            x.pass(c[0]);
            check.due(what + c[1], 0, () -> x.addOrder(0, 1, 1, c[1]));
            check.due(what + c[1] + ", it is open", 0, () -> x.order(0, 4));
            check.noArgument(what + (c[1] - 1), () -> Workshop.heated(5000, 1, c[0]), y -> y.addOrder(0, 1, 1, c[1] - 1));
        }
        CandleDip fresh = new CandleDip();
        check.due("13: at the quarter 0, of the day 0", 0, () -> fresh.addOrder(0, 1, 1, 0));
        for (int day : new int[] {-1, Integer.MIN_VALUE}) {
            check.noArgument("13: at the quarter 0, of the day " + day, CandleDip::new, y -> y.addOrder(0, 1, 1, day));
        }
    }

    /** "Throws IllegalArgumentException if .. day is .. more than 1000". */
    private static void promise13DayIsNotMoreThan1000() {
        CandleDip x = new CandleDip();
        check.due("13: of the day 1000", 0, () -> x.addOrder(0, 1, 1, 1000));
        check.due("13: its day", 1000, () -> x.order(0, 3));
        for (int day : new int[] {1001, Integer.MAX_VALUE}) {
            check.noArgument("13: of the day " + day + " when new", CandleDip::new, y -> y.addOrder(0, 1, 1, day));
            check.noArgument("13: of the day " + day, Workshop::busy, y -> y.addOrder(0, 1, 1, day));
        }
    }

    /**
     * "day is earlier than today, or more than 1000": on the day 1000 there is this one alone, on the day 1001 none.
     */
    private static void promise13NoDayIsLeft() {
        CandleDip x = atQuarter(40000);
        check.due("13: at the quarter 40000, of the day 1000", 0, () -> x.addOrder(0, 1, 1, 1000));
        x.pass(39);
        check.due("13: at the quarter 40039, of the day 1000", 1, () -> x.addOrder(0, 1, 1, 1000));
        check.due("13: it is open", 0, () -> x.order(1, 4));
        x.pass(1);
        check.due("13: it is late at the quarter 40040", 2, () -> x.order(1, 4));
        check.noArgument("13: at the quarter 40000, of the day 999", () -> atQuarter(40000), y -> y.addOrder(0, 1, 1, 999));
        check.noArgument("13: at the quarter 40000, of the day 1001", () -> atQuarter(40000), y -> y.addOrder(0, 1, 1, 1001));
        check.noArgument("13: at the quarter 40040, of the day 1000", () -> atQuarter(40040), y -> y.addOrder(0, 1, 1, 1000));
        check.noArgument("13: at the quarter 40040, of the day 1001", () -> atQuarter(40040), y -> y.addOrder(0, 1, 1, 1001));
    }

    private static CandleDip atQuarter(int quarter) {
        CandleDip x = new CandleDip();
        for (int left = quarter; left > 0; left -= 400) {
            x.pass(Math.min(left, 400));
        }
        return x;
    }

    /**
     * "Throws IllegalStateException if there are 20"; "There are at most 20, numbered likewise", filled and late
     * ones too.
     */
    private static void promise13AtMostTwenty() {
        CandleDip x = new CandleDip();
        for (int i = 0; i < 20; i++) {
            int number = i;
            check.due("13: order number " + i, number, () -> x.addOrder(number % 4, 1 + number % 9, 41 + number, number));
            check.due("13: orders", number + 1, () -> x.count(4));
        }
        for (int i = 0; i < 20; i++) {
            int[] due = {i % 4, 1 + i % 9, 41 + i, i, 0, 0};
            for (int what = 0; what <= 5; what++) {
                int order = i;
                int asked = what;
                check.due("13: order(" + i + ", " + what + ") of twenty", due[what], () -> x.order(order, asked));
            }
        }
        check.noState("13: a 21st order", () -> Workshop.withOrders(20), y -> y.addOrder(0, 1, 1, 900));
        check.noState("13: a 21st order, when all are late", () -> {
            CandleDip y = Workshop.withOrders(20);
            y.pass(400);
            y.pass(400);
            return y;
        }, y -> y.addOrder(0, 1, 1, 900));
        check.noState("13: a 21st order, when one is filled", () -> {
            CandleDip y = stockedWithOrder(1, 1);
            y.fill(0);
            for (int i = 0; i < 19; i++) {
                y.addOrder(2, 1, 1, 900);
            }
            return y;
        }, y -> y.addOrder(2, 1, 1, 900));
    }

    /**
     * "If several exceptions apply, the one that is named first is thrown": in addOrder the arguments, then the
     * state.
     */
    private static void promise13ArgumentIsNamedAheadOfState() {
        int[][] bad = {{-1, 1, 1, 900}, {4, 1, 1, 900}, {0, 0, 1, 900}, {0, 10, 1, 900}, {0, 1, 0, 900}, {0, 1, 61, 900},
            {0, 1, 1, -1}, {0, 1, 1, 1001}};
        for (int[] b : bad) {
            check.noArgument("13: a 21st addOrder(" + b[0] + ", " + b[1] + ", " + b[2] + ", " + b[3] + ")",
                () -> Workshop.withOrders(20), x -> x.addOrder(b[0], b[1], b[2], b[3]));
        }
    }

    /** "Throws IndexOutOfBoundsException if there is no such order", in fill. */
    private static void promise14NoSuchOrder() {
        CandleDip x = stocked(20, 0, 0);
        for (int i = 0; i < 20; i++) {
            x.addOrder(2, 1, 1, 900);
        }
        check.due("14: the first order", 19, () -> x.fill(0));
        check.due("14: the last order", 18, () -> x.fill(19));
        for (int order : Check.outside(0, 3)) {
            check.noIndex("14: fill(" + order + ") of 4 orders", Workshop::busy, y -> y.fill(order));
        }
        for (int order : Check.outside(0, 19)) {
            check.noIndex("14: fill(" + order + ") of 20 orders", () -> Workshop.withOrders(20), y -> y.fill(order));
        }
    }

    /** "Throws IllegalStateException if it is filled": though the store has candles for it. */
    private static void promise14IsFilled() {
        check.noState("14: filled, with candles left", () -> {
            CandleDip y = stockedWithOrder(1, 5);
            y.fill(0);
            return y;
        }, y -> y.fill(0));
        check.noState("14: filled, with none left", () -> {
            CandleDip y = stockedWithOrder(1, 12);
            y.fill(0);
            return y;
        }, y -> y.fill(0));
        check.noState("14: filled when it was late", () -> {
            CandleDip y = stocked(5, 4, 3);
            y.addOrder(2, 1, 2, y.count(0) / 40);
            y.pass(40);
            y.fill(0);
            return y;
        }, y -> y.fill(0));
    }

    /** "or the store has not enough": just enough of each least size, and 1 less; of 12, 7 and 3 candles. */
    private static void promise14StoreHasNotEnough() {
        int[][] cases = {{1, 12}, {2, 7}, {3, 3}};
        for (int[] c : cases) {
            CandleDip x = stockedWithOrder(c[0], c[1]);
            check.due("14: all " + c[1] + " of the size " + c[0] + " or more", 12 - c[1], () -> x.fill(0));
            check.due("14: it is filled", 1, () -> x.order(0, 4));
            check.noState("14: 1 less than the order of the size " + c[0], () -> stockedWithOrder(c[0], c[1] + 1), y -> y.fill(0));
        }
        check.noState("14: none of the size", () -> stockedWithOrder(4, 1), y -> y.fill(0));
        check.noState("14: an empty store", () -> Workshop.withOrders(1), y -> y.fill(0));
    }

    /** "each is for so many candles, 1 to 60": 60 of 60, 60 of 59, and 1 of 1. */
    private static void promise14ManyUpTo60() {
        CandleDip x = stocked(20, 20, 20);
        x.addOrder(2, 1, 60, 900);
        check.due("14: 60 of 60", 0, () -> x.fill(0));
        check.noState("14: 60 of 59", () -> {
            CandleDip y = stocked(20, 20, 19);
            y.addOrder(2, 1, 60, 900);
            return y;
        }, y -> y.fill(0));
        CandleDip one = stocked(1, 0, 0);
        one.addOrder(2, 1, 1, 900);
        check.due("14: 1 of 1", 0, () -> one.fill(0));
    }

    /** "If several exceptions apply, the one that is named first is thrown": in fill the order, then the state. */
    private static void promise14OrderIsNamedAheadOfState() {
        check.noIndex("14: no order, and an empty store", CandleDip::new, x -> x.fill(0));
        check.noIndex("14: no such order, and an empty store", () -> Workshop.withOrders(3), x -> x.fill(3));
    }

    /** "the smallest size that is not less than its least one": its least size itself is taken, 1 less is not. */
    private static void promise14NotLessThanItsLeastSize() {
        CandleDip x = stockedWithOrder(2, 1);
        x.fill(0);
        checkStock(x, 5, 3, 3);
        CandleDip y = stockedWithOrder(3, 3);
        y.fill(0);
        checkStock(y, 5, 4, 0);
    }

    private static void checkStock(CandleDip x, int... due) {
        for (int i = 0; i < due.length; i++) {
            int size = i + 1;
            check.due("14: store(2, " + size + ") behind it", due[i], () -> x.store(2, size));
        }
    }

    /** "first, then the next greater one, and so on": all of a size, 1 less and 1 more than all. */
    private static void promise14SmallestSizeFirst() {
        int[][] cases = {{4, 1, 4, 3}, {5, 0, 4, 3}, {6, 0, 3, 3}, {8, 0, 1, 3}, {9, 0, 0, 3}, {10, 0, 0, 2}, {12, 0, 0, 0}};
        for (int[] c : cases) {
            CandleDip x = stockedWithOrder(1, c[0]);
            check.due("14: " + c[0] + " of 12", 12 - c[0], () -> x.fill(0));
            checkStock(x, c[1], c[2], c[3]);
        }
    }

    /** "a least size, 1 to 9": candles of the size 9 fill an order of the size 9 and one of the size 1. */
    private static void promise14GreatestSize() {
        CandleDip x = Workshop.steady();
        Workshop.hung(x, 3, 2, 6);
        Workshop.harvest(x, 0, 45);
        x.addOrder(3, 9, 1, 900);
        x.addOrder(3, 1, 1, 900);
        check.due("14: of the size 9", 1, () -> x.fill(0));
        check.due("14: one is left", 1, () -> x.store(3, 9));
        check.due("14: of the size 1", 0, () -> x.fill(1));
        check.due("14: none is left", 0, () -> x.store(3, 9));
    }

    /** "of its kind": those of the kinds beside it stay. */
    private static void promise14OfItsKind() {
        for (int kind : new int[] {1, 3}) {
            check.noState("14: only of the kind 2", () -> {
                CandleDip y = stocked(5, 4, 3);
                y.addOrder(kind, 1, 1, 900);
                return y;
            }, y -> y.fill(0));
        }
        CandleDip x = Workshop.busy();
        x.addOrder(1, 1, 4, 900);
        int left = x.count(3) - 4;
        check.due("14: all of the kind 1", left, () -> x.fill(4));
        check.due("14: none of the kind 1", 0, () -> x.store(1, 1));
        check.due("14: those of the kind 2", 3, () -> x.store(2, 1));
    }

    /** "Fills an order, also a late one": from the quarter on in which it is late, and late no more. */
    private static void promise14LateOnes() {
        CandleDip x = stocked(5, 0, 0);
        x.addOrder(2, 1, 5, x.count(0) / 40);
        x.pass(40 - x.count(0) % 40);
        check.due("14: late", 2, () -> x.order(0, 4));
        check.due("14: one is late", 1, () -> x.count(6));
        check.due("14: a late one", 0, () -> x.fill(0));
        check.due("14: filled", 1, () -> x.order(0, 4));
        check.due("14: none is late", 0, () -> x.count(6));
        check.due("14: one is filled", 1, () -> x.count(5));
        check.noState("14: a late one that the store has not enough for", () -> {
            CandleDip y = stocked(5, 0, 0);
            y.addOrder(2, 1, 6, y.count(0) / 40);
            y.pass(40);
            return y;
        }, y -> y.fill(0));
    }

    /** "Returns how many candles are left in the store": of all kinds, down to 0. */
    private static void promise14CandlesLeft() {
        CandleDip x = Workshop.busy();
        check.due("14: candles in the store", 12, () -> x.count(3));
        check.due("14: 5 of size 2 of kind 2", 7, () -> x.fill(0));
        x.addOrder(2, 1, 3, 900);
        check.due("14: all but those of the kind 1", 4, () -> x.fill(4));
        x.addOrder(1, 1, 4, 900);
        check.due("14: all", 0, () -> x.fill(5));
    }

    /** "Throws IndexOutOfBoundsException if there is no such order", in order. */
    private static void promise15NoSuchOrder() {
        CandleDip x = Workshop.withOrders(20);
        check.due("15: the first order", 1, () -> x.order(0, 2));
        check.due("15: the last order", 58, () -> x.order(19, 2));
        for (int order : Check.outside(0, 3)) {
            check.noIndex("15: order(" + order + ", 0) of 4 orders", Workshop::busy, y -> y.order(order, 0));
        }
        for (int order : Check.outside(0, 19)) {
            check.noIndex("15: order(" + order + ", 0) of 20 orders", () -> Workshop.withOrders(20), y -> y.order(order, 0));
        }
    }

    /** "Throws IndexOutOfBoundsException if .. what is not 0 to 5". */
    private static void promise15WhatIsZeroTo5() {
        CandleDip x = stockedWithOrder(1, 1);
        check.due("15: order(0, 0)", 2, () -> x.order(0, 0));
        check.due("15: order(0, 5)", 1, () -> x.order(0, 5));
        for (int what : Check.outside(0, 5)) {
            check.noIndex("15: order(0, " + what + ")", Workshop::busy, y -> y.order(0, what));
            check.noIndex("15: order(4, " + what + ") of 4 orders", Workshop::busy, y -> y.order(4, what));
        }
    }

    /**
     * "for so many candles, 1 to 60, of a kind and of a least size, 1 to 9, is due on a day": the least and the
     * greatest.
     */
    private static void promise15LeastAndGreatest() {
        CandleDip x = new CandleDip();
        x.addOrder(0, 1, 1, 0);
        x.addOrder(3, 9, 60, 1000);
        int[][] due = {{0, 1, 1, 0, 0, 0}, {3, 9, 60, 1000, 0, 0}};
        for (int order = 0; order <= 1; order++) {
            for (int what = 0; what <= 5; what++) {
                int asked = order;
                int askedWhat = what;
                check.due("15: order(" + order + ", " + what + ")", due[order][what], () -> x.order(asked, askedWhat));
            }
        }
    }

    /** "4 0 if it is open, 1 if it is filled, 2 if it is late": in the last quarter of its day, and behind it. */
    private static void promise15OpenFilledLate() {
        CandleDip x = stocked(5, 0, 0);
        int today = x.count(0) / 40;
        x.addOrder(2, 1, 6, today);
        x.addOrder(2, 1, 5, today);
        x.addOrder(2, 1, 5, today + 1);
        x.fill(1);
        x.pass(39 - x.count(0) % 40);
        checkStates(x, "in the last quarter of the day", 0, 1, 0);
        x.pass(1);
        checkStates(x, "behind the day", 2, 1, 0);
        x.pass(39);
        checkStates(x, "in the last quarter of the next day", 2, 1, 0);
        x.pass(1);
        checkStates(x, "behind the next day", 2, 1, 2);
    }

    private static void checkStates(CandleDip x, String when, int... due) {
        for (int i = 0; i < due.length; i++) {
            int order = i;
            check.due("15: order(" + i + ", 4) " + when, due[i], () -> x.order(order, 4));
        }
    }

    /** "5 1 if it could be filled now, else 0": with just enough, with 1 less, when late, when filled. */
    private static void promise15CouldBeFilled() {
        int[][] cases = {{1, 12}, {2, 7}, {3, 3}};
        for (int[] c : cases) {
            CandleDip enough = stockedWithOrder(c[0], c[1]);
            check.due("15: just enough of the size " + c[0], 1, () -> enough.order(0, 5));
            CandleDip less = stockedWithOrder(c[0], c[1] + 1);
            check.due("15: 1 less than the order of the size " + c[0], 0, () -> less.order(0, 5));
        }
        CandleDip late = stocked(5, 0, 0);
        late.addOrder(2, 1, 5, late.count(0) / 40);
        late.addOrder(2, 1, 6, late.count(0) / 40);
        late.pass(40);
        check.due("15: a late one", 1, () -> late.order(0, 5));
        check.due("15: a late one without enough", 0, () -> late.order(1, 5));
        CandleDip filled = stockedWithOrder(1, 1);
        filled.fill(0);
        check.due("15: a filled one, with candles left", 0, () -> filled.order(0, 5));
        CandleDip empty = Workshop.withOrders(1);
        check.due("15: an empty store", 0, () -> empty.order(0, 5));
    }
}
