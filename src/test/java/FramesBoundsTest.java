/** Promises 5, 6, 7, 10 and 11 at their bounds: each test tells in its comment which sentence of the document it holds. */
public final class FramesBoundsTest {
    private static final Check check = new Check();

    public static void main(String[] args) {
        promise05KindIsZeroTo3();
        promise05WicksAreOneTo20();
        promise05AtMostTwelve();
        promise05ArgumentIsNamedAheadOfState();
        promise05AtFirst();
        promise06NoSuchFrame();
        promise06HookIsZeroTo11();
        promise06AnotherFrameHangsThere();
        promise06FullRacks();
        promise06ReturnsTheHookBefore();
        promise06FirstNamedException();
        promise07NoSuchFrame();
        promise07LiesAside();
        promise07ReturnsTheHookBefore();
        promise10NoSuchFrame();
        promise10WhatIsZeroTo7();
        promise10KindAndWicks();
        promise10Thickness();
        promise10Warmth();
        promise10Crack();
        promise10HookOrAside();
        promise10DipsSinceTheseWicks();
        promise10SizeIfCutOffNow();
        promise11HookIsZeroTo11();
        promise11FrameOrNone();
        check.end();
    }

    /** "Throws IllegalArgumentException if kind is not 0 to 3". */
    private static void promise05KindIsZeroTo3() {
        for (int kind : new int[] {0, 3}) {
            CandleDip x = new CandleDip();
            check.due("5: addFrame(" + kind + ", 7)", 0, () -> x.addFrame(kind, 7));
            check.due("5: its kind", kind, () -> x.frame(0, 0));
        }
        for (int kind : Check.outside(0, 3)) {
            check.noArgument("5: addFrame(" + kind + ", 7) when new", CandleDip::new, x -> x.addFrame(kind, 7));
            check.noArgument("5: addFrame(" + kind + ", 7)", Workshop::busy, x -> x.addFrame(kind, 7));
        }
    }

    /** "Throws IllegalArgumentException if .. wicks is not 1 to 20". */
    private static void promise05WicksAreOneTo20() {
        for (int wicks : new int[] {1, 20}) {
            CandleDip x = new CandleDip();
            check.due("5: addFrame(2, " + wicks + ")", 0, () -> x.addFrame(2, wicks));
            check.due("5: its wicks", wicks, () -> x.frame(0, 1));
        }
        for (int wicks : Check.outside(1, 20)) {
            check.noArgument("5: addFrame(2, " + wicks + ") when new", CandleDip::new, x -> x.addFrame(2, wicks));
            check.noArgument("5: addFrame(2, " + wicks + ")", Workshop::busy, x -> x.addFrame(2, wicks));
        }
        check.noArgument("5: addFrame(4, 21)", Workshop::busy, x -> x.addFrame(4, 21));
    }

    /**
     * "Throws IllegalStateException if there are 12"; "There are at most 12, numbered from 0 in the order of their
     * making".
     */
    private static void promise05AtMostTwelve() {
        CandleDip x = Workshop.steady();
        for (int i = 0; i < 12; i++) {
            int number = i;
            check.due("5: frame number " + i, number, () -> x.addFrame(number % 4, number + 1));
            check.due("5: frames", number + 1, () -> x.count(1));
        }
        for (int i = 0; i < 12; i++) {
            check.frameDue("5: of twelve", x, i, i % 4, i + 1, 0, 0, 0, -1, 0, 0);
        }
        check.noState("5: a 13th frame", () -> Workshop.withFrames(12), y -> y.addFrame(0, 1));
    }

    /**
     * "If several exceptions apply, the one that is named first is thrown": in addFrame the arguments, then the
     * state.
     */
    private static void promise05ArgumentIsNamedAheadOfState() {
        check.noArgument("5: a 13th frame of kind 4", () -> Workshop.withFrames(12), x -> x.addFrame(4, 1));
        check.noArgument("5: a 13th frame of kind -1", () -> Workshop.withFrames(12), x -> x.addFrame(-1, 1));
        check.noArgument("5: a 13th frame of 0 wicks", () -> Workshop.withFrames(12), x -> x.addFrame(0, 0));
        check.noArgument("5: a 13th frame of 21 wicks", () -> Workshop.withFrames(12), x -> x.addFrame(0, 21));
    }

    /**
     * "a thickness, 0 to 400 (0, at first: bare wicks), and a warmth, 0 to 100 (0, at first)"; "it lies aside at
     * first".
     */
    private static void promise05AtFirst() {
        CandleDip x = Workshop.busy();
        x.addFrame(3, 20);
        check.frameDue("5: at first", x, 5, 3, 20, 0, 0, 0, -1, 0, 0);
        check.due("5: those that hang", 3, () -> x.count(2));
    }

    /** "Throws IndexOutOfBoundsException if there is no such frame", in hang. */
    private static void promise06NoSuchFrame() {
        CandleDip x = Workshop.withFrames(12);
        x.layAside(0);
        x.layAside(11);
        check.due("6: the first frame", -1, () -> x.hang(0, 0));
        check.due("6: the last frame", -1, () -> x.hang(11, 11));
        for (int frame : Check.outside(0, 4)) {
            check.noIndex("6: hang(" + frame + ", 5) of 5 frames", Workshop::busy, y -> y.hang(frame, 5));
        }
        for (int frame : Check.outside(0, 11)) {
            check.noIndex("6: hang(" + frame + ", 5) of 12 frames", () -> Workshop.withFrames(12), y -> y.hang(frame, 5));
        }
    }

    /** "Throws IllegalArgumentException if hook is not 0 to 11". */
    private static void promise06HookIsZeroTo11() {
        for (int hook : new int[] {0, 11}) {
            CandleDip x = Workshop.withFrames(0);
            x.addFrame(0, 1);
            check.due("6: hang(0, " + hook + ")", -1, () -> x.hang(0, hook));
            check.due("6: it hangs there", 0, () -> x.hook(hook));
        }
        for (int hook : Check.outside(0, 11)) {
            check.noArgument("6: hang(0, " + hook + ") from a hook", Workshop::busy, x -> x.hang(0, hook));
            check.noArgument("6: hang(3, " + hook + ") from aside", Workshop::busy, x -> x.hang(3, hook));
        }
    }

    /**
     * "Throws IllegalStateException if another frame hangs there": another one, not the frame itself, and as long as
     * it hangs.
     */
    private static void promise06AnotherFrameHangsThere() {
        for (int hook : new int[] {0, 11}) {
            int beside = hook == 0 ? 1 : 10;
            Check.Making two = () -> {
                CandleDip y = Workshop.steady();
                Workshop.hung(y, 0, 1, hook);
                y.addFrame(0, 1);
                return y;
            };
            check.noState("6: from aside to the taken hook " + hook, two, y -> y.hang(1, hook));
            CandleDip x = two.make();
            check.due("6: the hook beside it", -1, () -> x.hang(1, beside));
            check.due("6: the frame itself", hook, () -> x.hang(0, hook));
            x.layAside(0);
            check.due("6: when it is laid aside", beside, () -> x.hang(1, hook));
            check.due("6: to the hook that came free", -1, () -> x.hang(0, beside));
        }
        check.noState("6: from a hook to a taken one", Workshop::busy, y -> y.hang(0, 7));
        check.noState("6: and the other way round", Workshop::busy, y -> y.hang(1, 6));
    }

    /** "There are 2, each with 6 hooks": with twelve frames each hook is taken, and each frame may stay where it is. */
    private static void promise06FullRacks() {
        for (int i = 0; i < 12; i++) {
            int frame = i;
            int other = (i + 1) % 12;
            check.noState("6: hang(" + frame + ", " + other + ") with full racks", () -> Workshop.withFrames(12),
                x -> x.hang(frame, other));
            CandleDip x = Workshop.withFrames(12);
            check.due("6: hang(" + frame + ", " + frame + ") with full racks", frame, () -> x.hang(frame, frame));
        }
    }

    /** "Returns the hook where it was, -1 from aside": the hooks 0 and 11, and aside again. */
    private static void promise06ReturnsTheHookBefore() {
        CandleDip x = Workshop.withFrames(0);
        x.addFrame(1, 2);
        check.due("6: from aside", -1, () -> x.hang(0, 0));
        check.due("6: from hook 0", 0, () -> x.hang(0, 11));
        check.due("6: from hook 11", 11, () -> x.hang(0, 5));
        x.layAside(0);
        check.due("6: from aside again", -1, () -> x.hang(0, 6));
    }

    /**
     * "If several exceptions apply, the one that is named first is thrown": in hang the frame, then the hook, then
     * the state.
     */
    private static void promise06FirstNamedException() {
        for (int frame : new int[] {-1, 5}) {
            check.noIndex("6: no frame, no hook below", Workshop::busy, x -> x.hang(frame, -1));
            check.noIndex("6: no frame, no hook above", Workshop::busy, x -> x.hang(frame, 12));
            check.noIndex("6: no frame, a taken hook", Workshop::busy, x -> x.hang(frame, 6));
        }
        check.noArgument("6: no hook, all taken, below", () -> Workshop.withFrames(12), x -> x.hang(0, -1));
        check.noArgument("6: no hook, all taken, above", () -> Workshop.withFrames(12), x -> x.hang(0, 12));
    }

    /** "Throws IndexOutOfBoundsException if there is no such frame", in layAside. */
    private static void promise07NoSuchFrame() {
        CandleDip x = Workshop.withFrames(12);
        check.due("7: the first frame", 0, () -> x.layAside(0));
        check.due("7: the last frame", 11, () -> x.layAside(11));
        for (int frame : Check.outside(0, 4)) {
            check.noIndex("7: layAside(" + frame + ") of 5 frames", Workshop::busy, y -> y.layAside(frame));
        }
        for (int frame : Check.outside(0, 11)) {
            check.noIndex("7: layAside(" + frame + ") of 12 frames", () -> Workshop.withFrames(12), y -> y.layAside(frame));
        }
    }

    /** "Throws IllegalStateException if it lies aside": when new, and when it was laid aside. */
    private static void promise07LiesAside() {
        check.noState("7: it never hung", Workshop::busy, x -> x.layAside(3));
        check.noState("7: it was laid aside", Workshop::busy, x -> x.layAside(4));
        CandleDip x = Workshop.busy();
        x.hang(3, 5);
        check.due("7: it hangs", 5, () -> x.layAside(3));
        check.noState("7: it hung, and was laid aside", () -> {
            CandleDip y = Workshop.busy();
            y.hang(3, 5);
            y.layAside(3);
            return y;
        }, y -> y.layAside(3));
    }

    /** "Returns the hook where it was": the hooks 0 and 11, 5 and 6. */
    private static void promise07ReturnsTheHookBefore() {
        for (int hook : new int[] {0, 5, 6, 11}) {
            CandleDip x = Workshop.withFrames(12);
            check.due("7: layAside from the hook " + hook, hook, () -> x.layAside(hook));
            check.due("7: nothing hangs there", -1, () -> x.hook(hook));
            check.due("7: it lies aside", -1, () -> x.frame(hook, 5));
            check.due("7: the others still hang", 11, () -> x.count(2));
        }
    }

    /** "Throws IndexOutOfBoundsException if there is no such frame", in frame. */
    private static void promise10NoSuchFrame() {
        CandleDip x = Workshop.withFrames(12);
        check.due("10: the first frame", 0, () -> x.frame(0, 5));
        check.due("10: the last frame", 11, () -> x.frame(11, 5));
        for (int frame : Check.outside(0, 4)) {
            check.noIndex("10: frame(" + frame + ", 0) of 5 frames", Workshop::busy, y -> y.frame(frame, 0));
        }
        for (int frame : Check.outside(0, 11)) {
            check.noIndex("10: frame(" + frame + ", 0) of 12 frames", () -> Workshop.withFrames(12), y -> y.frame(frame, 0));
        }
    }

    /** "Throws IndexOutOfBoundsException if .. what is not 0 to 7". */
    private static void promise10WhatIsZeroTo7() {
        CandleDip x = Workshop.thick(5000, 20, 40);
        check.due("10: frame(0, 0)", 0, () -> x.frame(0, 0));
        check.due("10: frame(0, 7)", 1, () -> x.frame(0, 7));
        for (int what : Check.outside(0, 7)) {
            check.noIndex("10: frame(0, " + what + ")", Workshop::busy, y -> y.frame(0, what));
            check.noIndex("10: frame(5, " + what + ") of 5 frames", Workshop::busy, y -> y.frame(5, what));
        }
    }

    /** "each has wicks, 1 to 20, of a kind, 0 to 3": the least and the greatest that are told. */
    private static void promise10KindAndWicks() {
        CandleDip x = new CandleDip();
        x.addFrame(0, 20);
        x.addFrame(3, 1);
        check.frameDue("10: least kind, most wicks", x, 0, 0, 20);
        check.frameDue("10: greatest kind, fewest wicks", x, 1, 3, 1);
    }

    /** "a thickness, 0 to 400". */
    private static void promise10Thickness() {
        CandleDip x = Workshop.thick(20000, 10, 400);
        check.due("10: the greatest thickness", 400, () -> x.frame(0, 2));
        x.dip(0);
        check.due("10: it stays", 400, () -> x.frame(0, 2));
        x.pass(20);
        x.cutOff(0);
        check.due("10: the least thickness", 0, () -> x.frame(0, 2));
    }

    /** "a warmth, 0 to 100". */
    private static void promise10Warmth() {
        CandleDip x = Workshop.hot(5000);
        Workshop.hung(x, 0, 1, 6);
        check.due("10: the least warmth", 0, () -> x.frame(0, 3));
        Workshop.dipOften(x, 0, 3);
        check.due("10: the greatest warmth", 100, () -> x.frame(0, 3));
        x.pass(17);
        check.due("10: the least again", 0, () -> x.frame(0, 3));
    }

    /** "4 1 if they have a crack, else 0". */
    private static void promise10Crack() {
        CandleDip whole = Workshop.thick(5000, 10, 14);
        check.due("10: without a crack", 0, () -> whole.frame(0, 4));
        CandleDip cracked = Workshop.cracked(5000, 10, 14);
        check.due("10: with a crack", 1, () -> cracked.frame(0, 4));
    }

    /** "5 its hook, -1 if it lies aside". */
    private static void promise10HookOrAside() {
        CandleDip x = new CandleDip();
        x.addFrame(0, 1);
        check.due("10: aside", -1, () -> x.frame(0, 5));
        x.hang(0, 0);
        check.due("10: on the first hook", 0, () -> x.frame(0, 5));
        x.hang(0, 11);
        check.due("10: on the last hook", 11, () -> x.frame(0, 5));
        x.layAside(0);
        check.due("10: aside again", -1, () -> x.frame(0, 5));
    }

    /** "6 how often it was dipped since it has these wicks (also when they melted)". */
    private static void promise10DipsSinceTheseWicks() {
        CandleDip x = Workshop.hot(5000);
        Workshop.hung(x, 0, 1, 6);
        check.due("10: not yet", 0, () -> x.frame(0, 6));
        Workshop.dipOften(x, 0, 2);
        check.due("10: thickness of two dips", 14, () -> x.frame(0, 2));
        x.dip(0);
        check.due("10: thickness when they melted", 1, () -> x.frame(0, 2));
        check.due("10: the dip by which they melted", 3, () -> x.frame(0, 6));
        x.dip(0);
        check.due("10: molten away", 0, () -> x.frame(0, 2));
        check.due("10: these are still the same wicks", 4, () -> x.frame(0, 6));
        x.pass(20);
        x.dip(0);
        x.pass(20);
        x.cutOff(0);
        check.due("10: new wicks", 0, () -> x.frame(0, 6));
        check.due("10: dips in all", 5, () -> x.count(7));
    }

    /** "7 the size that its candles would have, if they were cut off now": 0 when bare, and told of warm ones too. */
    private static void promise10SizeIfCutOffNow() {
        CandleDip bare = Workshop.withFrames(1);
        check.due("10: size of bare wicks", 0, () -> bare.frame(0, 7));
        CandleDip warm = Workshop.thick(5000, 10, 35);
        warm.dip(0);
        check.due("10: too warm to be cut off", 77, () -> warm.frame(0, 3));
        check.due("10: size of warm candles", 1, () -> warm.frame(0, 7));
        CandleDip greatest = Workshop.thick(20000, 10, 400);
        check.due("10: the greatest size", 9, () -> greatest.frame(0, 7));
    }

    /** "Throws IndexOutOfBoundsException if hook is not 0 to 11". */
    private static void promise11HookIsZeroTo11() {
        CandleDip x = Workshop.withFrames(12);
        check.due("11: hook(0)", 0, () -> x.hook(0));
        check.due("11: hook(11)", 11, () -> x.hook(11));
        for (int hook : Check.outside(0, 11)) {
            check.noIndex("11: hook(" + hook + ") when new", CandleDip::new, y -> y.hook(hook));
            check.noIndex("11: hook(" + hook + ")", Workshop::busy, y -> y.hook(hook));
        }
    }

    /** "Returns the frame that hangs there, -1 for none": frame 0 is one, and those that lie aside hang nowhere. */
    private static void promise11FrameOrNone() {
        CandleDip x = new CandleDip();
        x.addFrame(0, 1);
        x.addFrame(0, 1);
        for (int hook = 0; hook <= 11; hook++) {
            int asked = hook;
            check.due("11: hook(" + hook + ") with all aside", -1, () -> x.hook(asked));
        }
        x.hang(0, 11);
        x.hang(1, 0);
        check.due("11: frame 0 on the last hook", 0, () -> x.hook(11));
        check.due("11: frame 1 on the first hook", 1, () -> x.hook(0));
        check.due("11: none beside the last hook", -1, () -> x.hook(10));
        check.due("11: none beside the first hook", -1, () -> x.hook(1));
        x.layAside(0);
        check.due("11: none any more", -1, () -> x.hook(11));
    }
}
