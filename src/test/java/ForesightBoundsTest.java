/** Promises 18 to 20 at their bounds: each test tells in its comment which sentence of the document it holds. */
public final class ForesightBoundsTest {
    private static final Check check = new Check();

    public static void main(String[] args) {
        promise18NoSuchFrame();
        promise18DipsAreOneTo40();
        promise18DoesNotHang();
        promise18FirstNamedException();
        promise18FortiethDip();
        promise18AsFarAsItIsMelted();
        promise18AsFarAsTheWaxLasts();
        promise18WithoutTheOthers();
        promise18NothingIsChanged();
        promise19NoSuchFrame();
        promise19RestIsZeroTo20();
        promise19SizeIsOneTo9();
        promise19DoesNotHang();
        promise19FirstNamedException();
        promise19HasItNow();
        promise19AtMost60Dips();
        promise19NotByThen();
        promise19DipCouldNotBeForWax();
        promise19DipCouldNotBeForHeat();
        promise19NothingIsChanged();
        promise20NoSuchFrame();
        promise20SizeIsOneTo9();
        promise20DoesNotHang();
        promise20FirstNamedException();
        promise20HasItNow();
        promise20WithNone();
        promise20AtMost60Dips();
        promise20LeastOfSeveral();
        promise20LeastOfSeveralWithRests();
        promise20DipsAndRestsBetweenThem();
        promise20LeastRest();
        promise20GreatestRest();
        promise20RestsOf19And20AreAlike();
        promise20NothingIsChanged();
        check.end();
    }

    /** Frame 0 with one wick of kind 0 on hook 6, bare, over a vat that stays at 74. */
    private static CandleDip bareOver(int wax) {
        CandleDip x = Workshop.heated(wax, 1, 40);
        Workshop.hung(x, 0, 1, 6);
        return x;
    }

    private static CandleDip bareAt(int heat) {
        CandleDip x = Workshop.atHeat(heat);
        Workshop.hung(x, 0, 1, 6);
        return x;
    }

    private static CandleDip laidAside() {
        CandleDip x = bareOver(1000);
        x.layAside(0);
        return x;
    }

    /** "Throws IndexOutOfBoundsException if there is no such frame", in would. */
    private static void promise18NoSuchFrame() {
        CandleDip x = Workshop.withFrames(12);
        check.due("18: the first frame", 15, () -> x.would(0, 1));
        check.due("18: the last frame, of kind 3", 12, () -> x.would(11, 1));
        for (int frame : Check.outside(0, 4)) {
            check.noIndex("18: would(" + frame + ", 1) of 5 frames", Workshop::busy, y -> y.would(frame, 1));
        }
        for (int frame : Check.outside(0, 11)) {
            check.noIndex("18: would(" + frame + ", 1) of 12 frames", () -> Workshop.withFrames(12), y -> y.would(frame, 1));
        }
    }

    /** "Throws IllegalArgumentException if dips is not 1 to 40". */
    private static void promise18DipsAreOneTo40() {
        CandleDip x = bareOver(1000);
        check.due("18: would(0, 1)", 15, () -> x.would(0, 1));
        check.due("18: would(0, 40), molten", 0, () -> x.would(0, 40));
        for (int dips : Check.outside(1, 40)) {
            check.noArgument("18: would(0, " + dips + ")", Workshop::busy, y -> y.would(0, dips));
        }
    }

    /** "Throws IllegalStateException if it does not hang": when new, when laid aside; not on the hooks 0 and 11. */
    private static void promise18DoesNotHang() {
        check.noState("18: it never hung", Workshop::busy, x -> x.would(3, 1));
        check.noState("18: it was laid aside", Workshop::busy, x -> x.would(4, 40));
        for (int hook : new int[] {0, 11}) {
            CandleDip x = laidAside();
            x.hang(0, hook);
            check.due("18: on the hook " + hook, 26, () -> x.would(0, 2));
        }
        check.noState("18: aside again", ForesightBoundsTest::laidAside, x -> x.would(0, 2));
    }

    /**
     * "If several exceptions apply, the one that is named first is thrown": in would the frame, then dips, then the
     * state.
     */
    private static void promise18FirstNamedException() {
        for (int dips : new int[] {0, 41}) {
            check.noIndex("18: no frame, " + dips + " dips", Workshop::busy, x -> x.would(5, dips));
            check.noIndex("18: no frame when new, " + dips + " dips", CandleDip::new, x -> x.would(0, dips));
            check.noArgument("18: aside, " + dips + " dips", Workshop::busy, x -> x.would(3, dips));
        }
    }

    /** "if it was dipped so often": the 40th dip still counts, as it does when it is done. */
    private static void promise18FortiethDip() {
        CandleDip x = bareOver(5000);
        Workshop.grow(x, 0, 36);
        check.due("18: thickness", 400, () -> x.frame(0, 2));
        check.due("18: 4 dips at 400, and 35 that melt 3 each", 295, () -> x.would(0, 39));
        check.due("18: 4 dips at 400, and 36 that melt 3 each", 292, () -> x.would(0, 40));
        for (int i = 1; i < 40; i++) {
            x.dip(0);
        }
        check.due("18: 39 dips that are done", 295, () -> x.frame(0, 2));
        check.due("18: and the 40th", 292, () -> x.dip(0));
    }

    /** "(as far as it could be": as long as the wax is melted; at 60 one dip, at 59 none, though the fire goes on. */
    private static void promise18AsFarAsItIsMelted() {
        CandleDip cold = new CandleDip();
        cold.melt(5000);
        cold.setFire(5);
        Workshop.hung(cold, 0, 1, 6);
        check.due("18: at 20", 0, () -> cold.would(0, 40));
        CandleDip below = bareAt(59);
        check.due("18: at 59", 0, () -> below.would(0, 1));
        check.due("18: at 59, with a fire that goes on", 0, () -> below.would(0, 40));
        CandleDip just = bareAt(60);
        just.setFire(0);
        check.due("18: at 60", 16, () -> just.would(0, 1));
        check.due("18: at 60, then at 56", 16, () -> just.would(0, 40));
        CandleDip fading = bareOver(5000);
        fading.setFire(0);
        check.due("18: at 74, 69, 65 and 61", 15 + 11 + 12 + 12, () -> fading.would(0, 4));
        check.due("18: then at 57", 15 + 11 + 12 + 12, () -> fading.would(0, 5));
    }

    /** "(as far as it could be": as long as the wax lasts; 12, then 8 for each dip, and 1 less. */
    private static void promise18AsFarAsTheWaxLasts() {
        int[][] cases = {{0, 0}, {11, 0}, {12, 15}, {19, 15}, {20, 26}, {27, 26}, {28, 37}};
        for (int[] c : cases) {
            CandleDip x = bareOver(c[0]);
            check.due("18: " + c[0] + " wax for 3 dips", c[1], () -> x.would(0, 3));
            check.due("18: the wax is still there", c[0], () -> x.vat(0));
        }
        CandleDip none = Workshop.thick(319, 1, 399);
        check.due("18: a layer of 1 wants no wax", 400, () -> none.would(0, 1));
    }

    /** "without the others": eleven of them, which want the same wax, and are too warm or crack. */
    private static void promise18WithoutTheOthers() {
        CandleDip x = Workshop.heated(20, 1, 40);
        for (int i = 0; i < 12; i++) {
            Workshop.hung(x, 0, 1, i);
        }
        for (int i = 0; i < 12; i++) {
            int frame = i;
            check.due("18: would(" + i + ", 2) of twelve", 26, () -> x.would(frame, 2));
        }
        x.dip(0);
        check.due("18: 8 wax are not enough for bare wicks", 0, () -> x.would(1, 1));
        check.due("18: but for the second dip of the first one", 26, () -> x.would(0, 1));
    }

    /** "nothing is changed": by one dip, by forty, and by those that could not be. */
    private static void promise18NothingIsChanged() {
        check.changesNothing("18: would(0, 1)", Workshop::busy, 15, x -> x.would(0, 1));
        check.changesNothing("18: would(2, 40)", Workshop::busy, Workshop.busy().would(2, 40), x -> x.would(2, 40));
        check.changesNothing("18: at 59", () -> bareAt(59), 0, x -> x.would(0, 40));
        check.changesNothing("18: without wax", () -> bareOver(0), 0, x -> x.would(0, 40));
    }

    /** "Throws IndexOutOfBoundsException if there is no such frame", in dipsTo. */
    private static void promise19NoSuchFrame() {
        CandleDip x = Workshop.withFrames(12);
        check.due("19: the first frame", 4, () -> x.dipsTo(0, 0, 1));
        check.due("19: the last frame, of kind 3", 5, () -> x.dipsTo(11, 0, 1));
        for (int frame : Check.outside(0, 4)) {
            check.noIndex("19: dipsTo(" + frame + ", 0, 1) of 5 frames", Workshop::busy, y -> y.dipsTo(frame, 0, 1));
        }
        for (int frame : Check.outside(0, 11)) {
            check.noIndex("19: dipsTo(" + frame + ", 0, 1) of 12 frames", () -> Workshop.withFrames(12),
                y -> y.dipsTo(frame, 0, 1));
        }
    }

    /** "Throws IllegalArgumentException if rest is not 0 to 20". */
    private static void promise19RestIsZeroTo20() {
        CandleDip x = bareOver(1000);
        check.due("19: dipsTo(0, 0, 1)", 4, () -> x.dipsTo(0, 0, 1));
        check.due("19: dipsTo(0, 20, 1), with a crack", 7, () -> x.dipsTo(0, 20, 1));
        for (int rest : Check.outside(0, 20)) {
            check.noArgument("19: dipsTo(0, " + rest + ", 1)", Workshop::busy, y -> y.dipsTo(0, rest, 1));
        }
    }

    /** "Throws IllegalArgumentException if .. size is not 1 to 9", in dipsTo. */
    private static void promise19SizeIsOneTo9() {
        CandleDip x = bareOver(1000);
        check.due("19: dipsTo(0, 2, 1)", 4, () -> x.dipsTo(0, 2, 1));
        check.due("19: dipsTo(0, 2, 9), 4 + 33 * 11 = 367", 33, () -> x.dipsTo(0, 2, 9));
        for (int size : Check.outside(1, 9)) {
            check.noArgument("19: dipsTo(0, 2, " + size + ")", Workshop::busy, y -> y.dipsTo(0, 2, size));
        }
        check.noArgument("19: dipsTo(0, 21, 10)", Workshop::busy, y -> y.dipsTo(0, 21, 10));
    }

    /** "Throws IllegalStateException if it does not hang", in dipsTo: though it has the size. */
    private static void promise19DoesNotHang() {
        check.noState("19: it never hung", Workshop::busy, x -> x.dipsTo(3, 0, 1));
        check.noState("19: it was laid aside", Workshop::busy, x -> x.dipsTo(4, 20, 9));
        Check.Making sized = () -> {
            CandleDip y = Workshop.thick(5000, 1, 40);
            y.layAside(0);
            return y;
        };
        check.noState("19: it has the size, but lies aside", sized, x -> x.dipsTo(0, 0, 1));
        for (int hook : new int[] {0, 11}) {
            CandleDip x = sized.make();
            x.hang(0, hook);
            check.due("19: on the hook " + hook, 0, () -> x.dipsTo(0, 0, 1));
        }
    }

    /**
     * "If several exceptions apply, the one that is named first is thrown": in dipsTo the frame, then rest and size,
     * then the state.
     */
    private static void promise19FirstNamedException() {
        int[][] bad = {{-1, 1}, {21, 1}, {0, 0}, {0, 10}};
        for (int[] b : bad) {
            String what = "dipsTo(" + b[0] + ", " + b[1] + ")";
            check.noIndex("19: no frame, " + what, Workshop::busy, x -> x.dipsTo(5, b[0], b[1]));
            check.noIndex("19: no frame when new, " + what, CandleDip::new, x -> x.dipsTo(0, b[0], b[1]));
            check.noArgument("19: aside, " + what, Workshop::busy, x -> x.dipsTo(3, b[0], b[1]));
        }
    }

    /**
     * "would have this size or a greater one", "(0 if they have it now": of whole candles 39 and 40, of cracked ones 79
     * and 80, the size 9 at 359 and 360. A greater one than was asked for shows only where they have it now: by dips no
     * size is left out, since a dip adds 16 at most, and a size is 40.
     */
    private static void promise19HasItNow() {
        int[][] cases = {{39, 0, 1, 1}, {40, 0, 1, 0}, {79, 0, 2, 1}, {80, 0, 2, 0}, {80, 0, 1, 0}, {359, 0, 9, 1},
            {360, 0, 9, 0}, {400, 0, 9, 0}, {400, 0, 1, 0}, {79, 1, 1, 1}, {80, 1, 1, 0}, {399, 1, 5, 1}, {400, 1, 5, 0}};
        for (int[] c : cases) {
            String what = "19: thickness " + c[0] + (c[1] == 1 ? " with a crack" : "") + ", size " + c[2];
            CandleDip x = grown(c[0], c[1] == 1);
            check.due(what, c[3], () -> x.dipsTo(0, 7, c[2]));
            CandleDip cold = grown(c[0], c[1] == 1);
            cold.setFire(0);
            cold.pass(10);
            check.due(what + ", when no dip could be", c[3] == 0 ? 0 : -1, () -> cold.dipsTo(0, 7, c[2]));
        }
    }

    private static CandleDip grown(int thickness, boolean crack) {
        return crack ? Workshop.cracked(5000, 10, thickness) : Workshop.thick(5000, 10, thickness);
    }

    /** "at most 60 dips": candles of kind 3 that take up 2 at each dip, 60 dips away from the size 4, and 61. */
    private static void promise19AtMost60Dips() {
        CandleDip x = slow(17);
        check.due("19: thickness", 38, () -> x.frame(0, 2));
        check.due("19: 122 more want 61 dips", -1, () -> x.dipsTo(0, 8, 4));
        CandleDip y = slow(18);
        check.due("19: thickness", 40, () -> y.frame(0, 2));
        check.due("19: 120 more want 60 dips", 60, () -> y.dipsTo(0, 8, 4));
        CandleDip z = slow(19);
        check.due("19: 118 more want 59 dips", 59, () -> z.dipsTo(0, 8, 4));
    }

    /** Candles of kind 3 at 120 behind so many dips: 6 and 2 for each more. */
    private static CandleDip slow(int dips) {
        CandleDip x = Workshop.hot(20000);
        Workshop.hung(x, 3, 1, 11);
        for (int i = 0; i < dips; i++) {
            x.dip(0);
            x.pass(8);
        }
        return x;
    }

    /** "-1 if they have not by then": since they melt again and again, since they crack, since 400 / 80 is the most. */
    private static void promise19NotByThen() {
        CandleDip melting = bareOver(5000);
        check.due("19: without a rest they come to 59", 4, () -> melting.dipsTo(0, 0, 1));
        check.due("19: and then they melt", -1, () -> melting.dipsTo(0, 0, 2));
        CandleDip cracked = grown(400, true);
        check.due("19: size 5 with a crack", 0, () -> cracked.dipsTo(0, 7, 5));
        check.due("19: size 6 with a crack", -1, () -> cracked.dipsTo(0, 7, 6));
        CandleDip cracking = grown(39, false);
        cracking.pass(20);
        check.due("19: 44 of cold candles is no size any more", 9, () -> cracking.dipsTo(0, 7, 1));
    }

    /** "or a dip could not be": with just wax enough for the last dip, and with 1 less. */
    private static void promise19DipCouldNotBeForWax() {
        CandleDip enough = bareOver(12 + 8 + 8 + 8);
        check.due("19: wax for four dips", 4, () -> enough.dipsTo(0, 2, 1));
        check.due("19: none for a fifth", -1, () -> enough.dipsTo(0, 2, 2));
        CandleDip less = bareOver(12 + 8 + 8 + 7);
        check.due("19: 1 less", -1, () -> less.dipsTo(0, 2, 1));
        CandleDip none = bareOver(0);
        check.due("19: an empty vat", -1, () -> none.dipsTo(0, 0, 1));
    }

    /** "or a dip could not be": at 60 the last dip can be, at 57 and at 59 not; the fire goes on in the rests. */
    private static void promise19DipCouldNotBeForHeat() {
        CandleDip fading = bareOver(5000);
        fading.setFire(0);
        check.due("19: four dips, the last one at 61", 4, () -> fading.dipsTo(0, 0, 1));
        check.due("19: with rests the third would be at 57", -1, () -> fading.dipsTo(0, 1, 1));
        CandleDip just = Workshop.thick(2000, 1, 39);
        Workshop.coolTo(just, 60);
        check.due("19: one dip at 60", 1, () -> just.dipsTo(0, 20, 1));
        CandleDip below = Workshop.thick(2000, 1, 39);
        Workshop.coolTo(below, 59);
        check.due("19: none at 59", -1, () -> below.dipsTo(0, 20, 1));
    }

    /** "nothing is changed", by dipsTo: when it is reached, when it is not, and when they have it now. */
    private static void promise19NothingIsChanged() {
        check.changesNothing("19: reached", Workshop::busy, 4, x -> x.dipsTo(0, 2, 1));
        check.changesNothing("19: not reached", () -> bareOver(5000), -1, x -> x.dipsTo(0, 0, 9));
        check.changesNothing("19: could not be", () -> bareAt(59), -1, x -> x.dipsTo(0, 20, 1));
        check.changesNothing("19: now", () -> grown(40, false), 0, x -> x.dipsTo(0, 20, 1));
    }

    /** "Throws IndexOutOfBoundsException if there is no such frame", in bestRest. */
    private static void promise20NoSuchFrame() {
        CandleDip x = Workshop.withFrames(12);
        check.due("20: the first frame", 0, () -> x.bestRest(0, 1));
        check.due("20: the last frame", 0, () -> x.bestRest(11, 1));
        for (int frame : Check.outside(0, 4)) {
            check.noIndex("20: bestRest(" + frame + ", 1) of 5 frames", Workshop::busy, y -> y.bestRest(frame, 1));
        }
        for (int frame : Check.outside(0, 11)) {
            check.noIndex("20: bestRest(" + frame + ", 1) of 12 frames", () -> Workshop.withFrames(12), y -> y.bestRest(frame, 1));
        }
    }

    /** "Throws IllegalArgumentException if size is not 1 to 9", in bestRest. */
    private static void promise20SizeIsOneTo9() {
        CandleDip x = bareOver(1000);
        check.due("20: bestRest(0, 1)", 0, () -> x.bestRest(0, 1));
        check.due("20: bestRest(0, 9)", 1, () -> x.bestRest(0, 9));
        for (int size : Check.outside(1, 9)) {
            check.noArgument("20: bestRest(0, " + size + ")", Workshop::busy, y -> y.bestRest(0, size));
        }
    }

    /** "Throws IllegalStateException if it does not hang", in bestRest: though it has the size. */
    private static void promise20DoesNotHang() {
        check.noState("20: it never hung", Workshop::busy, x -> x.bestRest(3, 1));
        check.noState("20: it was laid aside", Workshop::busy, x -> x.bestRest(4, 9));
        Check.Making sized = () -> {
            CandleDip y = Workshop.thick(5000, 1, 40);
            y.layAside(0);
            return y;
        };
        check.noState("20: it has the size, but lies aside", sized, x -> x.bestRest(0, 1));
        for (int hook : new int[] {0, 11}) {
            CandleDip x = sized.make();
            x.hang(0, hook);
            check.due("20: on the hook " + hook, 0, () -> x.bestRest(0, 1));
        }
    }

    /**
     * "If several exceptions apply, the one that is named first is thrown": in bestRest the frame, then size, then
     * the state.
     */
    private static void promise20FirstNamedException() {
        for (int size : new int[] {0, 10}) {
            check.noIndex("20: no frame, size " + size, Workshop::busy, x -> x.bestRest(5, size));
            check.noIndex("20: no frame when new, size " + size, CandleDip::new, x -> x.bestRest(0, size));
            check.noArgument("20: aside, size " + size, Workshop::busy, x -> x.bestRest(3, size));
        }
    }

    /** "0 if it has it now": also when no dip could be; 39 and 40, 79 and 80 with a crack. */
    private static void promise20HasItNow() {
        int[][] cases = {{39, 0, 1, -1}, {40, 0, 1, 0}, {40, 0, 2, -1}, {79, 1, 1, -1}, {80, 1, 1, 0}, {400, 0, 9, 0},
            {400, 1, 5, 0}, {400, 1, 6, -1}};
        for (int[] c : cases) {
            CandleDip x = grown(c[0], c[1] == 1);
            x.setFire(0);
            x.pass(10);
            check.due("20: thickness " + c[0] + (c[1] == 1 ? " with a crack" : "") + ", size " + c[2], c[3],
                () -> x.bestRest(0, c[2]));
        }
    }

    /** "-1 if it has it with none": without heat, without wax, and with 1 less wax than the last dip wants. */
    private static void promise20WithNone() {
        CandleDip below = bareAt(59);
        check.due("20: at 59", -1, () -> below.bestRest(0, 1));
        CandleDip none = bareOver(0);
        check.due("20: an empty vat", -1, () -> none.bestRest(0, 1));
        CandleDip less = bareOver(12 + 8 + 8 + 7);
        check.due("20: 1 wax less", -1, () -> less.bestRest(0, 1));
        CandleDip enough = bareOver(12 + 8 + 8 + 8);
        check.due("20: just wax enough", 0, () -> enough.bestRest(0, 1));
    }

    /**
     * "(as dipsTo() tells": with at most 60 dips; 60 and 61 of kind 3 at 120, where rests of 5 to 9 neither melt nor
     * crack.
     */
    private static void promise20AtMost60Dips() {
        CandleDip x = slow(18);
        check.due("20: with a rest of 4 they melt", -1, () -> x.dipsTo(0, 4, 4));
        check.due("20: with a rest of 5 it is 60 dips", 60, () -> x.dipsTo(0, 5, 4));
        check.due("20: so a rest of 5", 5, () -> x.bestRest(0, 4));
        CandleDip y = slow(17);
        check.due("20: 61 dips are too many", -1, () -> y.bestRest(0, 4));
    }

    /** "of several the least one": one dip takes one quarter, whatever the rest behind it would be. */
    private static void promise20LeastOfSeveral() {
        CandleDip x = grown(39, false);
        check.due("20: one dip with a rest of 0", 1, () -> x.dipsTo(0, 0, 1));
        check.due("20: one dip with a rest of 20", 1, () -> x.dipsTo(0, 20, 1));
        check.due("20: the least rest", 0, () -> x.bestRest(0, 1));
    }

    /**
     * "of several the least one": 4 dips with 3 rests of 3 take as many quarters as 3 dips with 2 rests of 5, which
     * is 13.
     */
    private static void promise20LeastOfSeveralWithRests() {
        CandleDip x = Workshop.hot(5000);
        Workshop.hung(x, 0, 10, 6);
        for (int i = 0; i < 3; i++) {
            x.dip(0);
            x.pass(8);
        }
        x.setFire(1);
        int[] due = {-1, -1, -1, 4, 4, 3, 3};
        for (int rest = 0; rest < due.length; rest++) {
            int asked = rest;
            check.due("20: dips with rests of " + rest, due[rest], () -> x.dipsTo(0, asked, 1));
        }
        check.due("20: a rest of 3 rather than of 5", 3, () -> x.bestRest(0, 1));
    }

    /**
     * "in the fewest quarters (as dipsTo() tells: dips and rests between them)": 10 dips with 9 rests of 2 are 28, 9
     * with 8 of 3 are 33.
     */
    private static void promise20DipsAndRestsBetweenThem() {
        CandleDip x = Workshop.hot(5000);
        Workshop.hung(x, 0, 10, 0);
        x.setFire(1);
        x.pass(1);
        int[] due = {-1, -1, 10, 9, 17};
        for (int rest = 0; rest < due.length; rest++) {
            int asked = rest;
            check.due("20: dips with rests of " + rest, due[rest], () -> x.dipsTo(0, asked, 2));
        }
        check.due("20: not the fewest dips", 2, () -> x.bestRest(0, 2));
    }

    /** "Looks for the rest between two dips, 0 to 20": the rest 0 is one, and 1 is taken where 0 does not do. */
    private static void promise20LeastRest() {
        CandleDip x = bareOver(5000);
        check.due("20: 4 dips without a rest", 0, () -> x.bestRest(0, 1));
        check.due("20: for the size 2 they melt without a rest", -1, () -> x.dipsTo(0, 0, 2));
        check.due("20: 7 dips with a rest of 1", 7, () -> x.dipsTo(0, 1, 2));
        check.due("20: so a rest of 1", 1, () -> x.bestRest(0, 2));
    }

    /**
     * "Looks for the rest between two dips, 0 to 20": 19 is the greatest that is ever the best; see the next test for
     * 20. Cracked candles of 65 want 15 more for the size 1: 5 at 120 now, and 10 at 83, to which a fire of the
     * level 1 falls in 20 quarters; at 84 it would be 9. The wax is just enough for these two dips.
     */
    private static void promise20GreatestRest() {
        CandleDip x = fallingOver(120);
        check.due("20: with a rest of 18 the wax is 1 layer short", -1, () -> x.dipsTo(0, 18, 1));
        check.due("20: two dips with a rest of 19", 2, () -> x.dipsTo(0, 19, 1));
        check.due("20: two dips with a rest of 20", 2, () -> x.dipsTo(0, 20, 1));
        check.due("20: 21 quarters are fewer than 22", 19, () -> x.bestRest(0, 1));
        CandleDip less = fallingOver(119);
        check.due("20: 1 wax less", -1, () -> less.bestRest(0, 1));
    }

    /** Cold, cracked candles of the thickness 65 at 120 over so much wax, with a fire of the level 1. */
    private static CandleDip fallingOver(int wax) {
        CandleDip x = Workshop.cracked(65 * 8 + wax, 10, 65);
        x.pass(20);
        x.setFire(1);
        return x;
    }

    /**
     * "0 to 20", on the best rest of 20: no state shows it. Whatever the fire and the heat of the first dip, behind 20
     * quarters (this dip and 19 more) the heat of melted wax changes no more, and all the warmth of a frame that hangs
     * is gone; so with a rest of 20 the dips do the same as with one of 19, and take more quarters. The same holds of
     * dipsTo: 19 and 20 have the same answer.
     */
    private static void promise20RestsOf19And20AreAlike() {
        for (int level = 0; level <= 5; level++) {
            for (int heat = 60; heat <= 120; heat++) {
                CandleDip x = Workshop.atHeat(heat);
                x.setFire(level);
                int fallen = x.pass(20);
                int then = x.pass(1);
                check.due("20: heat from " + heat + " at the level " + level, true, () -> then == fallen || fallen < 60 && then < 60);
            }
        }
        CandleDip warm = Workshop.hot(1000);
        Workshop.hung(warm, 0, 1, 6);
        Workshop.dipOften(warm, 0, 3);
        check.due("20: the greatest warmth", 100, () -> warm.frame(0, 3));
        warm.pass(19);
        check.due("20: behind a rest of 19", 0, () -> warm.frame(0, 3));
        CandleDip best = fallingOver(120);
        for (int size = 1; size <= 9; size++) {
            int asked = size;
            check.due("20: size " + size, best.dipsTo(0, 19, size), () -> best.dipsTo(0, 20, asked));
        }
    }

    /**
     * "Returns this rest (nothing is changed)": when there is one, when there is none, and when it has the size now.
     */
    private static void promise20NothingIsChanged() {
        check.changesNothing("20: a rest", () -> fallingOver(120), 19, x -> x.bestRest(0, 1));
        check.changesNothing("20: none", () -> bareAt(59), -1, x -> x.bestRest(0, 9));
        check.changesNothing("20: now", () -> grown(40, false), 0, x -> x.bestRest(0, 1));
        check.changesNothing("20: among others", Workshop::busy, 1, x -> x.bestRest(0, 2));
    }
}
