/** Promises 16 and 17, and what a quarter does, at their bounds: each test tells in its comment which sentence it holds. */
public final class QuartersBoundsTest {
    private static final Check check = new Check();

    public static void main(String[] args) {
        promise16QuartersAreOneTo400();
        promise16ReturnsTheHeatThen();
        promise16HeatIsAtMost120();
        promise16HeatIsAtLeast0();
        promise16HeatIsCut();
        promise16EmptyVatLikewise();
        promise16CoolingByWhereItIs();
        promise16WarmthIsAtLeast0();
        promise16EachFrameCools();
        promise16QuarterIsOneGreater();
        promise16MultipleOf40();
        promise16DueOnThisDayOrEarlier();
        promise16OpenOrdersAlone();
        promise16ManyDaysInOneCall();
        promise16LastOfAllCalls();
        promise17WhatIsZeroTo8();
        promise17FramesAndThoseThatHang();
        promise17CandlesInTheStore();
        promise17OrdersFilledAndLate();
        promise17DipsInAll();
        promise17ThrownAwayInAll();
        check.end();
    }

    /** "Throws IllegalArgumentException if quarters is not 1 to 400". */
    private static void promise16QuartersAreOneTo400() {
        CandleDip one = new CandleDip();
        check.due("16: pass(1)", 20, () -> one.pass(1));
        check.due("16: the quarter behind pass(1)", 1, () -> one.count(0));
        CandleDip most = Workshop.steady();
        check.due("16: pass(400)", 74, () -> most.pass(400));
        check.due("16: the quarter behind pass(400)", 440, () -> most.count(0));
        for (int quarters : Check.outside(1, 400)) {
            check.noArgument("16: pass(" + quarters + ") when new", CandleDip::new, x -> x.pass(quarters));
            check.noArgument("16: pass(" + quarters + ")", Workshop::busy, x -> x.pass(quarters));
        }
    }

    /** "Returns the heat of the vat then": behind the first quarter, and behind as many in one call. */
    private static void promise16ReturnsTheHeatThen() {
        CandleDip x = new CandleDip();
        x.setFire(5);
        check.due("16: behind 1 quarter", 47, () -> x.pass(1));
        check.due("16: vat(1)", 47, () -> x.vat(1));
        CandleDip y = new CandleDip();
        y.setFire(1);
        check.due("16: behind 19 quarters", 70, () -> y.pass(19));
    }

    /**
     * "the heat becomes 6 * level more, and of this number n the heat becomes n - (n - 20) / 10, but .. at most
     * 120".
     */
    private static void promise16HeatIsAtMost120() {
        CandleDip just = new CandleDip();
        just.setFire(2);
        just.pass(19);
        check.due("16: a heat of 117", 117, () -> just.vat(1));
        check.due("16: 129 - 10 is 119", 119, () -> just.pass(1));
        check.due("16: 131 - 11 is 120", 120, () -> just.pass(1));
        check.due("16: 132 - 11 is 1 more than 120", 120, () -> just.pass(1));
        check.due("16: and so on", 120, () -> just.pass(400));
        just.setFire(5);
        check.due("16: 150 - 13 is far more", 120, () -> just.pass(1));
        just.setFire(1);
        check.due("16: 126 - 10 is less again", 116, () -> just.pass(1));
    }

    /**
     * "but at least 0": no run comes near to it, for n - (n - 20) / 10 is 20 or more when n is. The least heat
     * that can be told is 20: that of a new vat, and of one that much new wax has cooled.
     */
    private static void promise16HeatIsAtLeast0() {
        CandleDip fresh = new CandleDip();
        check.due("16: a new vat", 20, () -> fresh.pass(1));
        check.due("16: a day later", 20, () -> fresh.pass(400));
        CandleDip cooled = Workshop.hot(1);
        cooled.setFire(0);
        cooled.melt(5000);
        check.due("16: (120 * 1 + 20 * 5000) / 5001", 20, () -> cooled.vat(1));
        check.due("16: it stays", 20, () -> cooled.pass(400));
    }

    /** "n - (n - 20) / 10", cut towards 0: less by 1 from 30 on, by 0 at 29; by 2 from 40 on. */
    private static void promise16HeatIsCut() {
        int[] falling = {110, 101, 93, 86, 80, 74, 69, 65, 61, 57, 54, 51, 48, 46, 44, 42, 40, 38, 37, 36, 35, 34, 33, 32, 31,
            30, 29, 29, 29};
        CandleDip x = Workshop.hot(100);
        x.setFire(0);
        for (int i = 0; i < falling.length; i++) {
            check.due("16: heat behind " + (i + 1) + " quarters without a fire", falling[i], () -> x.pass(1));
        }
        int[] rising = {47, 72, 94, 114, 120, 120};
        CandleDip y = new CandleDip();
        y.setFire(5);
        for (int i = 0; i < rising.length; i++) {
            check.due("16: heat behind " + (i + 1) + " quarters of fire", rising[i], () -> y.pass(1));
        }
    }

    /** "(An empty vat likewise.)": as a vat with a little wax, and as a full one, at each level. */
    private static void promise16EmptyVatLikewise() {
        for (int level = 0; level <= 5; level++) {
            CandleDip empty = Workshop.heated(0, level, 1);
            CandleDip little = Workshop.heated(1, level, 1);
            CandleDip full = Workshop.heated(20000, level, 1);
            for (int quarter = 1; quarter <= 25; quarter++) {
                int due = full.vat(1);
                check.due("16: an empty vat at the level " + level, due, () -> empty.vat(1));
                check.due("16: a little wax at the level " + level, due, () -> little.vat(1));
                empty.pass(1);
                little.pass(1);
                full.pass(1);
            }
            check.due("16: it stays empty", 0, () -> empty.vat(0));
        }
    }

    /**
     * "frames on it lose 12 of their warmth in a quarter; on rack 1 they lose 6; frames that lie aside lose 3", "the hook
     * h of the rack r is the hook 6 * r and h": the first and the last hook of each rack, 0, 5, 6 and 11.
     */
    private static void promise16CoolingByWhereItIs() {
        int[][] places = {{0, 12}, {5, 12}, {6, 6}, {11, 6}, {-1, 3}};
        for (int[] p : places) {
            CandleDip x = placed(74, p[0]);
            check.due("16: a warmth of 37", 37, () -> x.frame(0, 3));
            x.pass(1);
            check.due("16: a quarter later, at the place " + p[0], 37 - p[1], () -> x.frame(0, 3));
        }
    }

    /** A frame that was dipped at this heat, so that its warmth is half of it, and was put on a hook, or aside (-1). */
    private static CandleDip placed(int heat, int place) {
        CandleDip x = Workshop.atHeat(heat);
        Workshop.hung(x, 0, 1, 7);
        x.dip(0);
        x.layAside(0);
        if (place >= 0) {
            x.hang(0, place);
        }
        return x;
    }

    /**
     * "the warmth of each frame becomes less by where it is, at least 0": from just so much, from 1 less, and from 1
     * more.
     */
    private static void promise16WarmthIsAtLeast0() {
        checkCooling(0, 74, 37, 25, 13, 1, 0, 0);
        checkCooling(0, 72, 36, 24, 12, 0, 0);
        checkCooling(0, 70, 35, 23, 11, 0, 0);
        checkCooling(11, 74, 37, 31, 25, 19, 13, 7, 1, 0, 0);
        checkCooling(11, 72, 36, 30, 24, 18, 12, 6, 0, 0);
        checkCooling(11, 70, 35, 29, 23, 17, 11, 5, 0, 0);
        checkCooling(-1, 74, 37, 34, 31, 28, 25, 22, 19, 16, 13, 10, 7, 4, 1, 0, 0);
        checkCooling(-1, 72, 36, 33, 30, 27, 24, 21, 18, 15, 12, 9, 6, 3, 0, 0);
        checkCooling(-1, 70, 35, 32, 29, 26, 23, 20, 17, 14, 11, 8, 5, 2, 0, 0);
    }

    private static void checkCooling(int place, int heat, int... due) {
        CandleDip x = placed(heat, place);
        for (int i = 0; i < due.length; i++) {
            check.due("16: from " + due[0] + ", at the place " + place + ", behind " + i + " quarters", due[i], () -> x.frame(0, 3));
            x.pass(1);
        }
    }

    /** "the warmth of each frame": of the first and the last of twelve. */
    private static void promise16EachFrameCools() {
        CandleDip x = Workshop.withFrames(12);
        x.dip(11);
        x.dip(0);
        check.due("16: frame 11 cooled by a dip of frame 0", 31, () -> x.frame(11, 3));
        check.due("16: frame 0 did not", 37, () -> x.frame(0, 3));
        x.pass(1);
        check.due("16: frame 0 in the draught", 25, () -> x.frame(0, 3));
        check.due("16: frame 11 on rack 1", 25, () -> x.frame(11, 3));
    }

    /** "The quarter is 1 greater". */
    private static void promise16QuarterIsOneGreater() {
        CandleDip x = Workshop.withFrames(1);
        check.due("16: at first", 40, () -> x.count(0));
        x.pass(1);
        check.due("16: pass(1)", 41, () -> x.count(0));
        x.dip(0);
        check.due("16: a dip", 42, () -> x.count(0));
        x.pass(400);
        check.due("16: pass(400)", 442, () -> x.count(0));
    }

    /**
     * "a day has 40", "At the end of a day (when the quarter becomes a multiple of 40)": at 40 and 80, not at 39, 41
     * or 79.
     */
    private static void promise16MultipleOf40() {
        CandleDip x = new CandleDip();
        x.addOrder(0, 1, 1, 0);
        x.addOrder(0, 1, 1, 1);
        int[][] due = {{39, 0}, {1, 1}, {1, 1}, {38, 1}, {1, 2}, {1, 2}};
        int quarter = 0;
        for (int[] d : due) {
            quarter += d[0];
            x.pass(d[0]);
            check.due("16: late ones at the quarter " + quarter, d[1], () -> x.count(6));
        }
    }

    /**
     * "each open order that was due on this day or earlier is late": the day itself, and not the day behind it. That
     * an earlier one is still open at the end of a day can't be: it was late at the end of its own day, and none is
     * taken for a day that is over.
     */
    private static void promise16DueOnThisDayOrEarlier() {
        CandleDip x = new CandleDip();
        for (int day = 0; day <= 3; day++) {
            x.addOrder(0, 1, 1, day);
        }
        for (int day = 0; day <= 3; day++) {
            x.pass(40);
            for (int i = 0; i <= 3; i++) {
                int order = i;
                check.due("16: order of the day " + i + " at the end of the day " + day, i <= day ? 2 : 0, () -> x.order(order, 4));
            }
        }
    }

    /** "each open order": one that is filled stays so, with the last candle and on the last quarter of its day. */
    private static void promise16OpenOrdersAlone() {
        CandleDip x = Workshop.busy();
        int today = x.count(0) / 40;
        x.addOrder(2, 1, 1, today);
        x.addOrder(2, 1, 1, today);
        x.pass(39 - x.count(0) % 40);
        x.fill(4);
        x.pass(1);
        check.due("16: filled in the last quarter", 1, () -> x.order(4, 4));
        check.due("16: open in the last quarter", 2, () -> x.order(5, 4));
        x.fill(5);
        x.pass(40);
        check.due("16: filled when it was late", 1, () -> x.order(5, 4));
    }

    /** "Lets quarters go by": 400 of them end ten days. */
    private static void promise16ManyDaysInOneCall() {
        CandleDip x = new CandleDip();
        for (int day = 0; day <= 11; day++) {
            x.addOrder(0, 1, 1, day);
        }
        x.pass(399);
        check.due("16: late at the quarter 399", 9, () -> x.count(6));
        check.due("16: the order of the day 9", 0, () -> x.order(9, 4));
        x.pass(1);
        check.due("16: late at the quarter 400", 10, () -> x.count(6));
        check.due("16: the order of the day 10", 0, () -> x.order(10, 4));
    }

    /** "An object is used for at most 512 calls": the 512th still answers, with 400 quarters in each but the last. */
    private static void promise16LastOfAllCalls() {
        CandleDip x = new CandleDip();
        for (int call = 1; call <= 511; call++) {
            x.pass(400);
        }
        check.due("16: the quarter behind 511 calls", 511 * 400, () -> x.count(0));
    }

    /** "Throws IndexOutOfBoundsException if what is not 0 to 8". */
    private static void promise17WhatIsZeroTo8() {
        CandleDip x = Workshop.thick(5000, 20, 39);
        x.pass(20);
        x.cutOff(0);
        check.due("17: count(0)", 20 + 7 * 8 + 20, () -> x.count(0));
        check.due("17: count(8)", 20, () -> x.count(8));
        for (int what : Check.outside(0, 8)) {
            check.noIndex("17: count(" + what + ") when new", CandleDip::new, y -> y.count(what));
            check.noIndex("17: count(" + what + ")", Workshop::busy, y -> y.count(what));
        }
    }

    /** "1 frames, 2 those that hang": none, one on the hook 0, all twelve, and all but one. */
    private static void promise17FramesAndThoseThatHang() {
        CandleDip x = new CandleDip();
        x.addFrame(0, 1);
        check.due("17: one frame", 1, () -> x.count(1));
        check.due("17: it lies aside", 0, () -> x.count(2));
        x.hang(0, 0);
        check.due("17: it hangs on the hook 0", 1, () -> x.count(2));
        CandleDip full = Workshop.withFrames(12);
        check.due("17: twelve frames", 12, () -> full.count(1));
        check.due("17: all hang", 12, () -> full.count(2));
        full.layAside(11);
        check.due("17: all but one", 11, () -> full.count(2));
        check.due("17: still twelve frames", 12, () -> full.count(1));
    }

    /** "3 candles in the store": of the size 0 none come there; of the sizes 1 and 9 they do, until they are sold. */
    private static void promise17CandlesInTheStore() {
        CandleDip x = Workshop.steady();
        Workshop.hung(x, 0, 5, 6);
        Workshop.harvest(x, 0, 3);
        check.due("17: thrown away", 0, () -> x.count(3));
        Workshop.harvest(x, 0, 4);
        check.due("17: of the size 1", 5, () -> x.count(3));
        Workshop.harvest(x, 0, 36);
        check.due("17: and of the size 9", 10, () -> x.count(3));
        x.addOrder(0, 1, 10, 900);
        x.fill(0);
        check.due("17: all are sold", 0, () -> x.count(3));
    }

    /** "4 orders, 5 those that are filled, 6 those that are late": none, and all twenty. */
    private static void promise17OrdersFilledAndLate() {
        CandleDip x = Workshop.steady();
        Workshop.hung(x, 0, 20, 6);
        Workshop.harvest(x, 0, 4);
        int today = x.count(0) / 40;
        for (int i = 0; i < 20; i++) {
            x.addOrder(0, 1, 1, today);
        }
        checkOrders(x, "all open", 20, 0, 0);
        x.pass(40);
        checkOrders(x, "all late", 20, 0, 20);
        x.fill(19);
        checkOrders(x, "one filled", 20, 1, 19);
        for (int i = 0; i < 19; i++) {
            x.fill(i);
        }
        checkOrders(x, "all filled", 20, 20, 0);
    }

    private static void checkOrders(CandleDip x, String when, int... due) {
        for (int i = 0; i < due.length; i++) {
            int what = i + 4;
            check.due("17: count(" + what + "), " + when, due[i], () -> x.count(what));
        }
    }

    /**
     * "7 dips in all (also those by which candles melted)": of all frames, of old wicks too, and not the refused
     * ones.
     */
    private static void promise17DipsInAll() {
        CandleDip x = Workshop.hot(1000);
        Workshop.hung(x, 0, 1, 6);
        Workshop.hung(x, 0, 1, 11);
        Workshop.dipOften(x, 0, 2);
        check.due("17: two dips", 2, () -> x.count(7));
        x.dip(0);
        check.due("17: and one by which they melted", 3, () -> x.count(7));
        x.dip(1);
        check.due("17: and one of another frame", 4, () -> x.count(7));
        x.pass(20);
        x.cutOff(1);
        check.due("17: cutting off changes nothing of it", 4, () -> x.count(7));
        check.noState("17: a refused dip is none", () -> Workshop.thick(0, 1, 4), y -> y.dip(0));
    }

    /** "8 candles that were thrown away in all": 39 / 40 are, 40 / 40 are not; added up. */
    private static void promise17ThrownAwayInAll() {
        CandleDip x = Workshop.thick(5000, 20, 39);
        x.pass(20);
        x.cutOff(0);
        check.due("17: of 20 wicks", 20, () -> x.count(8));
        x.dip(0);
        x.pass(20);
        x.cutOff(0);
        check.due("17: and of 20 wicks", 40, () -> x.count(8));
        CandleDip y = Workshop.thick(5000, 20, 40);
        y.pass(20);
        y.cutOff(0);
        check.due("17: of the size 1", 0, () -> y.count(8));
    }
}
