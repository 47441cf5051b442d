/** Promise 8 at its bounds: each test tells in its comment which sentence of the document it holds. */
public final class DipBoundsTest {
    private static final Check check = new Check();

    /** Of the growth 12, 11, 10 .. 5, the greatest heat at which whole candles of the kinds 0 to 2 take it up. */
    private static final int[] LAST_HEAT = {67, 75, 83, 91, 99, 107, 115, 120};

    public static void main(String[] args) {
        promise08NoSuchFrame();
        promise08DoesNotHang();
        promise08WaxIsNotMelted();
        promise08VatHasLess();
        promise08VatHasLessForLaterDips();
        promise08NothingIsTakenFromAnEmptyVat();
        promise08FrameIsNamedAheadOfState();
        promise08WarmthGreaterThan70();
        promise08MeltsByTheHeat();
        promise08ThicknessIsAtLeast0();
        promise08MeltingTakesNothingUp();
        promise08BareWicksAgain();
        promise08GrowthAtEachHeat();
        promise08BareAtZeroAlone();
        promise08NoMoreThan400();
        promise08WaxIsCut();
        promise08CrackBelow10();
        promise08BareWicksGetNoCrack();
        promise08WarmthIsAtMost100();
        promise08WarmthIsCut();
        promise08QuarterGoesBy();
        promise08DayEnds();
        check.end();
    }

    /** "Throws IndexOutOfBoundsException if there is no such frame", in dip. */
    private static void promise08NoSuchFrame() {
        CandleDip x = Workshop.withFrames(12);
        check.due("8: the first frame", 15, () -> x.dip(0));
        check.due("8: the last frame, of kind 3", 12, () -> x.dip(11));
        for (int frame : Check.outside(0, 4)) {
            check.noIndex("8: dip(" + frame + ") of 5 frames", Workshop::busy, y -> y.dip(frame));
        }
        for (int frame : Check.outside(0, 11)) {
            check.noIndex("8: dip(" + frame + ") of 12 frames", () -> Workshop.withFrames(12), y -> y.dip(frame));
        }
    }

    /** "Throws IllegalStateException if it does not hang": when new, when laid aside; not on the hooks 0 and 11. */
    private static void promise08DoesNotHang() {
        check.noState("8: it never hung", Workshop::busy, x -> x.dip(3));
        check.noState("8: it was laid aside", Workshop::busy, x -> x.dip(4));
        for (int hook : new int[] {0, 11}) {
            CandleDip x = Workshop.steady();
            Workshop.hung(x, 0, 1, hook);
            check.due("8: on the hook " + hook, 15, () -> x.dip(0));
            check.noState("8: laid aside from the hook " + hook, () -> {
                CandleDip y = Workshop.steady();
                Workshop.hung(y, 0, 1, hook);
                y.layAside(0);
                return y;
            }, y -> y.dip(0));
        }
    }

    /**
     * "A frame that hangs can be dipped, if the wax is melted", "Throws IllegalStateException if .. the wax is not
     * melted": at 59; at 60 it is.
     */
    private static void promise08WaxIsNotMelted() {
        check.noState("8: at 20", () -> hangingAt(20, 0), x -> x.dip(0));
        check.noState("8: at 59", () -> hangingAt(59, 0), x -> x.dip(0));
        check.due("8: at 60", 16, () -> hangingAt(60, 0).dip(0));
        check.noState("8: hot candles at 59", () -> {
            CandleDip y = Workshop.hot(3000);
            Workshop.hung(y, 0, 1, 6);
            Workshop.dipOften(y, 0, 3);
            Workshop.coolTo(y, 59);
            return y;
        }, x -> x.dip(0));
    }

    private static CandleDip hangingAt(int heat, int kind) {
        CandleDip x = heat == 20 ? new CandleDip() : Workshop.atHeat(heat);
        if (heat == 20) {
            x.melt(5000);
        }
        Workshop.hung(x, kind, 1, 6);
        return x;
    }

    /**
     * "if the vat has less than that, the frame cannot be dipped": bare wicks at 74, with just so much wax and with
     * 1 less.
     */
    private static void promise08VatHasLess() {
        int[][] cases = {{0, 1, 15, 12}, {0, 20, 15, 240}, {1, 1, 15, 13}, {1, 20, 15, 270}, {2, 1, 15, 15},
            {2, 20, 15, 300}, {3, 1, 12, 13}, {3, 20, 12, 264}};
        for (int[] c : cases) {
            String what = "8: kind " + c[0] + ", " + c[1] + " wicks: ";
            CandleDip x = bareOver(c[3], c[0], c[1]);
            check.due(what + "wax enough", c[2], () -> x.dip(0));
            check.due(what + "the vat is empty then", 0, () -> x.vat(0));
            check.noState(what + "1 less", () -> bareOver(c[3] - 1, c[0], c[1]), y -> y.dip(0));
            check.noState(what + "an empty vat", () -> bareOver(0, c[0], c[1]), y -> y.dip(0));
        }
    }

    private static CandleDip bareOver(int wax, int kind, int wicks) {
        CandleDip x = Workshop.heated(wax, 1, 40);
        Workshop.hung(x, kind, wicks, 6);
        return x;
    }

    /**
     * "if the vat has less than that, the frame cannot be dipped": candles that are no bare wicks, and the wax of
     * melted ones.
     */
    private static void promise08VatHasLessForLaterDips() {
        CandleDip x = bareOver(240 + 176, 0, 20);
        x.dip(0);
        check.due("8: 176 wax for 11 * 8 * 20 / 10", 26, () -> x.dip(0));
        check.due("8: the vat is empty then", 0, () -> x.vat(0));
        check.noState("8: 175 wax", () -> {
            CandleDip y = bareOver(240 + 175, 0, 20);
            y.dip(0);
            return y;
        }, y -> y.dip(0));
        CandleDip melting = Workshop.hot(11);
        Workshop.hung(melting, 0, 1, 6);
        Workshop.dipOften(melting, 0, 2);
        check.due("8: no wax is left", 0, () -> melting.vat(0));
        check.due("8: those that melt want none", 1, () -> melting.dip(0));
        check.noState("8: when they have cooled down to 70, they want some", () -> {
            CandleDip y = Workshop.hot(11);
            Workshop.hung(y, 0, 1, 6);
            Workshop.dipOften(y, 0, 3);
            y.pass(5);
            return y;
        }, y -> y.dip(0));
    }

    /**
     * "if the vat has less than that": that of a layer of 1 on one wick is 1 * 8 * 1 / 10 = 0, and that of none at
     * 400 too.
     */
    private static void promise08NothingIsTakenFromAnEmptyVat() {
        CandleDip x = Workshop.thick(319, 1, 399);
        check.due("8: thickness", 399, () -> x.frame(0, 2));
        check.due("8: the vat is empty", 0, () -> x.vat(0));
        check.due("8: a layer of 1", 400, () -> x.dip(0));
        x.pass(7);
        check.due("8: and none", 400, () -> x.dip(0));
        check.due("8: all dips count", 81, () -> x.frame(0, 6));
        check.due("8: the vat is still empty", 0, () -> x.vat(0));
        check.noState("8: a layer of 5 wants 4", () -> Workshop.thick(315, 1, 394), y -> y.dip(0));
        CandleDip just = Workshop.thick(319, 1, 394);
        check.due("8: and has them", 399, () -> just.dip(0));
    }

    /** "If several exceptions apply, the one that is named first is thrown": in dip the frame, then the state. */
    private static void promise08FrameIsNamedAheadOfState() {
        check.noIndex("8: no frame and no melted wax", CandleDip::new, x -> x.dip(0));
        check.noIndex("8: no such frame and an empty vat", () -> bareOver(0, 0, 1), x -> x.dip(1));
        check.noState("8: aside, not melted, no wax", () -> {
            CandleDip y = new CandleDip();
            y.addFrame(0, 1);
            return y;
        }, x -> x.dip(0));
    }

    /** "If the warmth of its candles is greater than 70, they melt": at 70 they grow, at 71 they melt. */
    private static void promise08WarmthGreaterThan70() {
        CandleDip warm = Workshop.steady();
        Workshop.hung(warm, 0, 1, 6);
        Workshop.dipOften(warm, 0, 5);
        check.due("8: a warmth of 71", 71, () -> warm.frame(0, 3));
        check.due("8: at 71 they melt by (74 - 55) / 5", 56, () -> warm.dip(0));
        warm.pass(5);
        check.due("8: a warmth of 70", 70, () -> warm.frame(0, 3));
        check.due("8: at 70 they grow", 67, () -> warm.dip(0));
        check.due("8: a warmth of 72", 72, () -> warm.frame(0, 3));
        check.due("8: at 72 they melt", 64, () -> warm.dip(0));
    }

    /** "their thickness becomes (heat - 55) / 5 less": at each heat from 60 to 120, and cut towards 0. */
    private static void promise08MeltsByTheHeat() {
        for (int heat = 60; heat <= 120; heat++) {
            CandleDip x = Workshop.thick(3000, 5, 70);
            Workshop.dipOften(x, 0, 2);
            int thickness = x.frame(0, 2);
            Workshop.coolTo(x, heat);
            int loss = heat < 65 ? 1 : heat / 5 - 11;
            check.due("8: they melt at " + heat, thickness - loss, () -> x.dip(0));
            check.due("8: their warmth then", 100, () -> x.frame(0, 3));
        }
    }

    /** "at least 0": with 3 less at each dip, from the thickness 3 to 0, from 4 by 1 to 0, and from 2 to 0. */
    private static void promise08ThicknessIsAtLeast0() {
        CandleDip even = Workshop.steady();
        Workshop.hung(even, 0, 1, 6);
        Workshop.dipOften(even, 0, 4);
        even.layAside(0);
        even.pass(1);
        even.hang(0, 6);
        even.dip(0);
        even.pass(1);
        Workshop.dipOften(even, 0, 2);
        check.due("8: thickness 81 = 27 * 3", 81, () -> even.frame(0, 2));
        check.due("8: warm enough to melt", 71, () -> even.frame(0, 3));
        Workshop.dipOften(even, 0, 26);
        check.due("8: 3", 3, () -> even.frame(0, 2));
        check.due("8: from 3 to 0", 0, () -> even.dip(0));
        check.due("8: and 0 again", 0, () -> even.dip(0));

        CandleDip one = Workshop.steady();
        Workshop.hung(one, 0, 1, 6);
        Workshop.dipOften(one, 0, 2);
        one.pass(1);
        Workshop.dipOften(one, 0, 4);
        check.due("8: thickness 70 = 23 * 3 + 1", 70, () -> one.frame(0, 2));
        Workshop.dipOften(one, 0, 22);
        check.due("8: from 4 to 1", 1, () -> one.dip(0));
        check.due("8: from 1 to 0", 0, () -> one.dip(0));

        CandleDip two = Workshop.steady();
        Workshop.hung(two, 0, 1, 6);
        Workshop.dipOften(two, 0, 5);
        check.due("8: thickness 59 = 19 * 3 + 2", 59, () -> two.frame(0, 2));
        Workshop.dipOften(two, 0, 19);
        check.due("8: 2", 2, () -> two.frame(0, 2));
        check.due("8: from 2 to 0", 0, () -> two.dip(0));
    }

    /** "nothing is taken up, and their warmth is 100 then": of bare wicks that are warm too. */
    private static void promise08MeltingTakesNothingUp() {
        CandleDip x = Workshop.hot(1000);
        Workshop.hung(x, 0, 10, 6);
        Workshop.dipOften(x, 0, 2);
        int wax = x.vat(0);
        check.due("8: wax of two dips", 1000 - 72 - 40, () -> wax);
        check.due("8: they melt", 1, () -> x.dip(0));
        check.due("8: bare", 0, () -> x.dip(0));
        check.due("8: bare and warm", 0, () -> x.dip(0));
        check.due("8: their warmth", 100, () -> x.frame(0, 3));
        check.due("8: the wax", wax, () -> x.vat(0));
        check.due("8: five dips", 5, () -> x.count(7));
    }

    /** "at 0 they are bare wicks again, without a crack": at 1 the crack is still there. */
    private static void promise08BareWicksAgain() {
        CandleDip x = Workshop.cracked(5000, 10, 14);
        check.due("8: a crack", 1, () -> x.frame(0, 4));
        Workshop.dipOften(x, 0, 2);
        check.due("8: thickness 24", 24, () -> x.frame(0, 2));
        check.due("8: (120 - 55) / 5 less", 11, () -> x.dip(0));
        Workshop.coolTo(x, 105);
        check.due("8: (105 - 55) / 5 less", 1, () -> x.dip(0));
        check.due("8: a crack at the thickness 1", 1, () -> x.frame(0, 4));
        check.due("8: nothing is left", 0, () -> x.dip(0));
        check.due("8: no crack at the thickness 0", 0, () -> x.frame(0, 4));
    }

    /**
     * "they grow by g: 12 less (heat - 60) / 8, and 4 more, if the wicks are bare, and 3 less, if the kind is 3": at
     * each heat.
     */
    private static void promise08GrowthAtEachHeat() {
        for (int kind = 0; kind <= 3; kind++) {
            int growth = 12;
            for (int heat = 60; heat <= 120; heat++) {
                if (heat > LAST_HEAT[12 - growth]) {
                    growth--;
                }
                int layer = kind == 3 ? growth - 3 : growth;
                CandleDip bare = hangingAt(heat, kind);
                check.due("8: bare wicks of kind " + kind + " at " + heat, layer + 4, () -> bare.dip(0));
                CandleDip whole = hangingAt(120, kind);
                int first = whole.dip(0);
                Workshop.coolTo(whole, heat);
                check.due("8: candles of kind " + kind + " at " + heat, first + layer, () -> whole.dip(0));
            }
        }
    }

    /** "and 4 more, if the wicks are bare": at the thickness 0, but not at 1. */
    private static void promise08BareAtZeroAlone() {
        CandleDip one = melted(1);
        check.due("8: thickness 1", 1, () -> one.frame(0, 2));
        check.due("8: 1 and 5 at 120", 6, () -> one.dip(0));
        CandleDip none = melted(0);
        check.due("8: thickness 0", 0, () -> none.frame(0, 2));
        check.due("8: 0 and 9 at 120", 9, () -> none.dip(0));
    }

    /** A frame whose candles melted down to the thickness 1 or 0, and cooled down to 0, over a vat of 120. */
    private static CandleDip melted(int thickness) {
        CandleDip x = Workshop.hot(1000);
        Workshop.hung(x, 0, 1, 6);
        Workshop.dipOften(x, 0, 4 - thickness);
        x.pass(20);
        return x;
    }

    /**
     * "but no more than 400 less their thickness": 11 of 11 to 400, 4 of 8, 1 of 5, and none at 400; and the wax of
     * so much.
     */
    private static void promise08NoMoreThan400() {
        CandleDip all = Workshop.steady();
        Workshop.hung(all, 0, 10, 6);
        Workshop.grow(all, 0, 35);
        int wax = all.vat(0);
        check.due("8: thickness 389", 389, () -> all.frame(0, 2));
        check.due("8: 11 more", 400, () -> all.dip(0));
        check.due("8: wax of 11", wax - 88, () -> all.vat(0));
        all.pass(2);
        check.due("8: none more", 400, () -> all.dip(0));
        check.due("8: wax of none", wax - 88, () -> all.vat(0));

        CandleDip part = Workshop.steady();
        Workshop.hung(part, 3, 10, 6);
        Workshop.grow(part, 0, 49);
        int before = part.vat(0);
        check.due("8: thickness 396", 396, () -> part.frame(0, 2));
        check.due("8: 4 more", 400, () -> part.dip(0));
        check.due("8: wax of 4", before - 44, () -> part.vat(0));

        CandleDip one = Workshop.thick(20000, 20, 399);
        int left = one.vat(0);
        check.due("8: 1 more", 400, () -> one.dip(0));
        check.due("8: wax of 1", left - 16, () -> one.vat(0));
        CandleDip five = Workshop.thick(20000, 20, 394);
        check.due("8: 5 more, to 399", 399, () -> five.dip(0));
        CandleDip exact = Workshop.thick(20000, 20, 395);
        check.due("8: 5 more, to 400", 400, () -> exact.dip(0));
    }

    /** "The wax that is taken up is g * (8 and the kind) * wicks / 10", cut towards 0. */
    private static void promise08WaxIsCut() {
        int[][] cases = {{0, 3, 36}, {1, 7, 94}, {1, 1, 13}, {2, 7, 105}, {3, 3, 39}, {3, 1, 13}, {3, 7, 92}};
        for (int[] c : cases) {
            CandleDip x = Workshop.steady();
            Workshop.hung(x, c[0], c[1], 0);
            x.dip(0);
            check.due("8: wax of bare wicks of kind " + c[0] + ", " + c[1] + " wicks", 20000 - c[2], () -> x.vat(0));
        }
    }

    /** "the warmth is less than 10, they get a crack": at 9 and at 0; not at 10. */
    private static void promise08CrackBelow10() {
        CandleDip ten = Workshop.steady();
        Workshop.hung(ten, 0, 1, 6);
        ten.dip(0);
        ten.layAside(0);
        ten.pass(9);
        ten.hang(0, 0);
        check.due("8: a warmth of 10", 10, () -> ten.frame(0, 3));
        ten.dip(0);
        check.due("8: no crack at 10", 0, () -> ten.frame(0, 4));

        CandleDip nine = Workshop.steady();
        Workshop.hung(nine, 0, 1, 0);
        Workshop.dipOften(nine, 0, 4);
        nine.pass(5);
        check.due("8: a warmth of 9", 9, () -> nine.frame(0, 3));
        check.due("8: whole ahead of it", 0, () -> nine.frame(0, 4));
        check.due("8: they grow all the same", 59, () -> nine.dip(0));
        check.due("8: a crack at 9", 1, () -> nine.frame(0, 4));

        CandleDip cold = Workshop.thick(5000, 10, 9);
        cold.pass(20);
        check.due("8: a warmth of 0", 0, () -> cold.frame(0, 3));
        cold.dip(0);
        check.due("8: a crack at 0", 1, () -> cold.frame(0, 4));

        CandleDip full = Workshop.thick(5000, 10, 400);
        full.pass(20);
        check.due("8: they can't grow at 400", 400, () -> full.dip(0));
        check.due("8: but they crack", 1, () -> full.frame(0, 4));
    }

    /**
     * "If the wicks were not bare ahead of this": at the thickness 0 there is no crack however cold they are, at 1
     * there is.
     */
    private static void promise08BareWicksGetNoCrack() {
        CandleDip fresh = Workshop.withFrames(1);
        fresh.dip(0);
        check.due("8: new wicks", 0, () -> fresh.frame(0, 4));
        CandleDip none = melted(0);
        none.dip(0);
        check.due("8: bare wicks again", 0, () -> none.frame(0, 4));
        CandleDip one = melted(1);
        one.dip(0);
        check.due("8: the thickness 1", 1, () -> one.frame(0, 4));
    }

    /**
     * "their warmth becomes (warmth + heat) / 2, at most 100". No candle that grows comes to 100 so: the most is
     * (70 + 120) / 2, since at 71 it melts. Those that melt have 100, and not (100 + 120) / 2.
     */
    private static void promise08WarmthIsAtMost100() {
        CandleDip x = Workshop.thick(5000, 10, 70);
        Workshop.dipOften(x, 0, 2);
        check.due("8: they melt", 100, () -> x.frame(0, 3));
        x.dip(0);
        check.due("8: they melt again", 100, () -> x.frame(0, 3));
        x.pass(5);
        check.due("8: a warmth of 70", 70, () -> x.frame(0, 3));
        x.dip(0);
        check.due("8: the most of those that grow", 95, () -> x.frame(0, 3));
    }

    /** "(warmth + heat) / 2", cut towards 0. */
    private static void promise08WarmthIsCut() {
        CandleDip x = Workshop.steady();
        Workshop.hung(x, 0, 1, 6);
        x.dip(0);
        check.due("8: (0 + 74) / 2", 37, () -> x.frame(0, 3));
        x.dip(0);
        check.due("8: (37 + 74) / 2", 55, () -> x.frame(0, 3));
    }

    /**
     * "Dips a frame; then a quarter goes by", "but not that of the frame with whose dip this quarter goes by": the others
     * cool, and itself does not; the wax has its heat ahead of the quarter.
     */
    private static void promise08QuarterGoesBy() {
        int[][] places = {{0, 12}, {5, 12}, {6, 6}, {11, 6}, {-1, 3}};
        for (int[] p : places) {
            CandleDip x = Workshop.steady();
            Workshop.hung(x, 0, 1, 7);
            Workshop.hung(x, 0, 1, 8);
            Workshop.dipOften(x, 0, 3);
            x.layAside(0);
            if (p[0] >= 0) {
                x.hang(0, p[0]);
            }
            check.due("8: the quarter ahead of it", 43, () -> x.count(0));
            x.dip(1);
            check.due("8: the quarter behind it", 44, () -> x.count(0));
            check.due("8: the other one, at the place " + p[0], 64 - p[1], () -> x.frame(0, 3));
            check.due("8: itself", 37, () -> x.frame(1, 3));
        }
        CandleDip rising = hangingAt(67, 0);
        check.due("8: 16 at 67", 16, () -> rising.dip(0));
        check.due("8: the warmth is of 67", 33, () -> rising.frame(0, 3));
        check.due("8: the heat behind the quarter", 90, () -> rising.vat(1));
    }

    /** "At the end of a day (when the quarter becomes a multiple of 40)": a dip ends it, a refused dip does not. */
    private static void promise08DayEnds() {
        CandleDip x = Workshop.heated(5000, 1, 38);
        x.addOrder(0, 1, 1, 0);
        Workshop.hung(x, 0, 1, 0);
        x.dip(0);
        check.due("8: open at the quarter 39", 0, () -> x.order(0, 4));
        x.dip(0);
        check.due("8: late at the quarter 40", 2, () -> x.order(0, 4));
        check.noState("8: a refused dip at the quarter 39", () -> {
            CandleDip y = Workshop.heated(0, 1, 39);
            y.addOrder(0, 1, 1, 0);
            Workshop.hung(y, 0, 1, 0);
            return y;
        }, y -> y.dip(0));
    }
}
