/** Promise 9 at its bounds: each test tells in its comment which sentence of the document it holds. */
public final class CutBoundsTest {
    private static final Check check = new Check();

    public static void main(String[] args) {
        promise09NoSuchFrame();
        promise09BareWicks();
        promise09WarmthGreaterThan20();
        promise09FrameIsNamedAheadOfState();
        promise09HangsOrLiesAside();
        promise09SizeIsThicknessBy40();
        promise09SizeWithACrackIsThicknessBy80();
        promise09SizeIsAtMost9();
        promise09SizeZeroIsThrownAway();
        promise09AsManyAsWicks();
        promise09AsFarAsTheVatHasRoom();
        promise09WaxThatComesBackIsCut();
        promise09HeatStays();
        promise09NewBareWicks();
        check.end();
    }

    /** Frame 0, with 10 wicks, and candles of this thickness that are cold. */
    private static CandleDip cold(int thickness, boolean crack) {
        CandleDip x = crack ? Workshop.cracked(5000, 10, thickness) : Workshop.thick(5000, 10, thickness);
        x.pass(20);
        return x;
    }

    /** "Throws IndexOutOfBoundsException if there is no such frame", in cutOff. */
    private static void promise09NoSuchFrame() {
        CandleDip x = Workshop.withFrames(12);
        x.dip(0);
        x.dip(11);
        x.pass(20);
        check.due("9: the first frame", 0, () -> x.cutOff(0));
        check.due("9: the last frame", 0, () -> x.cutOff(11));
        for (int frame : Check.outside(0, 4)) {
            check.noIndex("9: cutOff(" + frame + ") of 5 frames", Workshop::busy, y -> y.cutOff(frame));
        }
        for (int frame : Check.outside(0, 11)) {
            check.noIndex("9: cutOff(" + frame + ") of 12 frames", () -> Workshop.withFrames(12), y -> y.cutOff(frame));
        }
    }

    /**
     * "Throws IllegalStateException if they are bare wicks": new ones, cut ones, molten ones; not at the thickness
     * 1.
     */
    private static void promise09BareWicks() {
        check.noState("9: new wicks that hang", () -> Workshop.withFrames(1), x -> x.cutOff(0));
        check.noState("9: new wicks aside", Workshop::busy, x -> x.cutOff(3));
        check.noState("9: wicks whose candles were cut off", Workshop::busy, x -> x.cutOff(0));
        check.noState("9: molten wicks that are cold", () -> molten(0, 20), x -> x.cutOff(0));
        check.noState("9: molten wicks that are warm", () -> molten(0, 1), x -> x.cutOff(0));
        check.noState("9: the thickness 1, and warm", () -> molten(1, 1), x -> x.cutOff(0));
        CandleDip one = molten(1, 20);
        check.due("9: the thickness 1", 1, () -> one.frame(0, 2));
        check.due("9: they are thrown away", 0, () -> one.cutOff(0));
        check.due("9: one candle", 1, () -> one.count(8));
    }

    /** Candles that melted down to the thickness 1 or 0, and so many quarters behind this. */
    private static CandleDip molten(int thickness, int quarters) {
        CandleDip x = Workshop.hot(1000);
        Workshop.hung(x, 0, 1, 6);
        Workshop.dipOften(x, 0, 4 - thickness);
        x.pass(quarters);
        return x;
    }

    /**
     * "or their warmth is greater than 20"; "are cut off with a warmth of at most 20": at 20 they are, at 21 they
     * are not.
     */
    private static void promise09WarmthGreaterThan20() {
        CandleDip x = warm(5);
        check.due("9: a warmth of 20", 20, () -> x.frame(0, 3));
        check.due("9: cut off at 20", 1, () -> x.cutOff(0));
        CandleDip y = warm(4);
        check.due("9: a warmth of 21", 21, () -> y.frame(0, 3));
        check.noState("9: not cut off at 21", () -> warm(4), z -> z.cutOff(0));
        check.noState("9: not cut off at 100", Workshop::busy, z -> z.cutOff(4));
        CandleDip cold = cold(40, false);
        check.due("9: a warmth of 0", 0, () -> cold.frame(0, 3));
        check.due("9: cut off at 0", 1, () -> cold.cutOff(0));
    }

    /** Behind four dips candles of the warmth 21, behind five of 20. */
    private static CandleDip warm(int dips) {
        CandleDip x = Workshop.steady();
        Workshop.hung(x, 0, 1, 0);
        Workshop.dipOften(x, 0, dips);
        x.pass(4);
        if (dips == 5) {
            x.layAside(0);
            x.pass(1);
        }
        return x;
    }

    /** "If several exceptions apply, the one that is named first is thrown": in cutOff the frame, then the state. */
    private static void promise09FrameIsNamedAheadOfState() {
        check.noIndex("9: no frame at all", CandleDip::new, x -> x.cutOff(0));
        check.noIndex("9: no such frame, others bare", () -> Workshop.withFrames(3), x -> x.cutOff(3));
        check.noState("9: bare, and too warm", () -> molten(0, 1), x -> x.cutOff(0));
    }

    /** "The candles of a frame that lies aside, or hangs": on each rack and aside; it stays there. */
    private static void promise09HangsOrLiesAside() {
        for (int place : new int[] {-1, 0, 11}) {
            CandleDip x = cold(40, false);
            x.layAside(0);
            if (place >= 0) {
                x.hang(0, place);
            }
            check.due("9: from the place " + place, 1, () -> x.cutOff(0));
            check.due("9: it stays there", place, () -> x.frame(0, 5));
            check.due("9: in the store", 10, () -> x.store(0, 1));
        }
    }

    /** "The size is the thickness / 40": 39 and 40, 79 and 80 .. 359 and 360. */
    private static void promise09SizeIsThicknessBy40() {
        for (int size = 1; size <= 9; size++) {
            checkSize(40 * size - 1, false, size - 1);
            checkSize(40 * size, false, size);
        }
    }

    /** "or, with a crack, the thickness / 80": 79 and 80, 159 and 160 .. 399 and 400. */
    private static void promise09SizeWithACrackIsThicknessBy80() {
        checkSize(39, true, 0);
        checkSize(40, true, 0);
        for (int size = 1; size <= 5; size++) {
            checkSize(80 * size - 1, true, size - 1);
            checkSize(80 * size, true, size);
        }
    }

    /** "at most 9": at 399 and at 400, where 400 / 40 is 10. */
    private static void promise09SizeIsAtMost9() {
        checkSize(399, false, 9);
        checkSize(400, false, 9);
    }

    private static void checkSize(int thickness, boolean crack, int size) {
        String what = "9: thickness " + thickness + (crack ? " with a crack" : "");
        CandleDip x = cold(thickness, crack);
        check.due(what, thickness, () -> x.frame(0, 2));
        check.due(what + ", the crack", crack ? 1 : 0, () -> x.frame(0, 4));
        check.due(what + ", told ahead of it", size, () -> x.frame(0, 7));
        int wax = x.vat(0);
        check.due(what + ", cut off", size, () -> x.cutOff(0));
        for (int each = 1; each <= 9; each++) {
            int asked = each;
            check.due(what + ", store(0, " + each + ")", each == size ? 10 : 0, () -> x.store(0, asked));
        }
        check.due(what + ", candles in the store", size == 0 ? 0 : 10, () -> x.count(3));
        check.due(what + ", thrown away", size == 0 ? 10 : 0, () -> x.count(8));
        check.due(what + ", wax behind it", wax + (size == 0 ? thickness * 8 : 0), () -> x.vat(0));
    }

    /**
     * "Returns their size, 0 if they are thrown away", "candles of the size 0 are thrown away, and their wax ..
     * comes back to the vat": at 39, not at 40.
     */
    private static void promise09SizeZeroIsThrownAway() {
        CandleDip x = cold(39, false);
        check.due("9: wax of the candles is gone", 5000 - 312, () -> x.vat(0));
        check.due("9: size 0", 0, () -> x.cutOff(0));
        check.due("9: all of it is back", 5000, () -> x.vat(0));
        check.due("9: none in the store", 0, () -> x.count(3));
        check.due("9: thrown away", 10, () -> x.count(8));
        CandleDip y = cold(40, false);
        check.due("9: size 1", 1, () -> y.cutOff(0));
        check.due("9: no wax is back", 5000 - 320, () -> y.vat(0));
        check.due("9: none thrown away", 0, () -> y.count(8));
    }

    /** "they go to the store, as many as wicks": 1 and 20. */
    private static void promise09AsManyAsWicks() {
        for (int wicks : new int[] {1, 20}) {
            CandleDip x = Workshop.thick(5000, wicks, 40);
            x.pass(20);
            x.cutOff(0);
            check.due("9: in the store, of " + wicks + " wicks", wicks, () -> x.store(0, 1));
            CandleDip y = Workshop.thick(5000, wicks, 39);
            y.pass(20);
            y.cutOff(0);
            check.due("9: thrown away, of " + wicks + " wicks", wicks, () -> y.count(8));
        }
    }

    /** "as far as it has room": for 240 wax in a vat with room for 241, 240, 239, 1 and none. */
    private static void promise09AsFarAsTheVatHasRoom() {
        int[][] cases = {{241, 19999}, {240, 20000}, {239, 20000}, {1, 20000}, {0, 20000}};
        for (int[] c : cases) {
            CandleDip x = Workshop.heated(c[0] == 241 ? 19999 : 20000, 1, 40);
            Workshop.hung(x, 0, 20, 6);
            x.dip(0);
            x.pass(20);
            if (c[0] < 240) {
                x.melt(240 - c[0]);
            }
            check.due("9: room in the vat", 20000 - c[0], () -> x.vat(0));
            check.due("9: size 0", 0, () -> x.cutOff(0));
            check.due("9: wax with room for " + c[0], c[1], () -> x.vat(0));
            check.due("9: all are thrown away", 20, () -> x.count(8));
            check.due("9: bare wicks", 0, () -> x.frame(0, 2));
        }
    }

    /** "their wax, thickness * (8 and the kind) * wicks / 10", cut towards 0. */
    private static void promise09WaxThatComesBackIsCut() {
        int[][] cases = {{0, 1, 12}, {0, 3, 36}, {1, 1, 13}, {1, 7, 94}, {2, 1, 15}, {3, 1, 13}, {3, 7, 92}};
        for (int[] c : cases) {
            CandleDip x = Workshop.heated(5000, 1, 40);
            Workshop.hung(x, c[0], c[1], 6);
            x.dip(0);
            x.pass(20);
            int wax = x.vat(0);
            x.cutOff(0);
            check.due("9: wax of kind " + c[0] + ", " + c[1] + " wicks", wax + c[2], () -> x.vat(0));
        }
        CandleDip two = Workshop.heated(5000, 1, 40);
        Workshop.hung(two, 0, 1, 6);
        two.dip(0);
        two.dip(0);
        two.pass(20);
        check.due("9: 12 and 8 were taken", 4980, () -> two.vat(0));
        two.cutOff(0);
        check.due("9: 26 * 8 * 1 / 10 = 20 come back", 5000, () -> two.vat(0));
    }

    /** "(the heat stays)": of a hot vat, and of one that has cooled down. */
    private static void promise09HeatStays() {
        CandleDip hot = cold(39, false);
        hot.cutOff(0);
        check.due("9: the heat of 120", 120, () -> hot.vat(1));
        CandleDip fallen = cold(39, false);
        fallen.setFire(0);
        fallen.pass(60);
        fallen.cutOff(0);
        check.due("9: the heat of 29", 29, () -> fallen.vat(1));
    }

    /** "the frame has new, bare wicks of its kind with a warmth of 0": from a warmth of 20, with a crack, many dips. */
    private static void promise09NewBareWicks() {
        CandleDip warm = warm(5);
        warm.cutOff(0);
        check.frameDue("9: from a warmth of 20", warm, 0, 0, 1, 0, 0, 0, -1, 0, 0);
        CandleDip cracked = cold(400, true);
        check.due("9: dips of a thickness of 400", 79, () -> cracked.frame(0, 6));
        cracked.cutOff(0);
        check.frameDue("9: with a crack, at 400", cracked, 0, 0, 10, 0, 0, 0, 6, 0, 0);
        check.due("9: dips in all stay", 79, () -> cracked.count(7));
        check.due("9: they grow as bare wicks do", 9, () -> cracked.dip(0));
        check.due("9: without a crack", 0, () -> cracked.frame(0, 4));
    }
}
