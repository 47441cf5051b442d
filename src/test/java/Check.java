import java.util.List;

/** Counts checks, prints those that went wrong, and ends the program with 1 if there was one. */
final class Check {
    /** A call whose answer, or exception, is looked at. */
    interface Call {
        Object answer();
    }

    /** A call on whatever workshop it is given. */
    interface CallOn {
        Object answer(CandleDip x);
    }

    /** Makes a workshop that stands in a certain way, a new object each time. */
    interface Making {
        CandleDip make();
    }

    private int right;
    private int wrong;

    /** The last numbers that are refused on each side of a range, and the outermost ones of all. */
    static int[] outside(int least, int most) {
        return new int[] {Integer.MIN_VALUE, least - 1, most + 1, Integer.MAX_VALUE};
    }

    /** What a call answers, or the class of the exception that it throws. */
    static Object answerOf(Call call) {
        try {
            return call.answer();
        } catch (RuntimeException e) {
            return e.getClass();
        }
    }

    void due(String what, Object want, Call call) {
        Object got = answerOf(call);
        if (want.equals(got)) {
            right++;
        } else {
            wrong++;
            System.out.println(what + " answered " + got + ", due is " + want);
        }
    }

    /** Looks at each of the numbers that are told of a frame: frame(frame, 0), frame(frame, 1) and so on. */
    void frameDue(String what, CandleDip x, int frame, int... want) {
        for (int i = 0; i < want.length; i++) {
            int asked = i;
            due(what + ": frame(" + frame + ", " + i + ")", want[i], () -> x.frame(frame, asked));
        }
    }

    void noIndex(String what, Making making, CallOn call) {
        changesNothing(what, making, IndexOutOfBoundsException.class, call);
    }

    void noArgument(String what, Making making, CallOn call) {
        changesNothing(what, making, IllegalArgumentException.class, call);
    }

    void noState(String what, Making making, CallOn call) {
        changesNothing(what, making, IllegalStateException.class, call);
    }

    /**
     * Looks at what a call answers or throws, that all the others tell the same before and behind it,
     * and that calls which come later answer as if it had not been.
     */
    void changesNothing(String what, Making making, Object want, CallOn call) {
        for (Telling part : Telling.values()) {
            CandleDip x = making.make();
            List<String> before = part.of(x);
            due(what, want, () -> call.answer(x));
            same(what + ", what is told before and behind it", before, part.of(x));
        }
        CandleDip x = making.make();
        due(what, want, () -> call.answer(x));
        same(what + ", what comes later", Telling.later(making.make()), Telling.later(x));
    }

    private void same(String what, List<String> want, List<String> got) {
        if (want.equals(got)) {
            right++;
            return;
        }
        wrong++;
        for (int i = 0; i < Math.max(want.size(), got.size()); i++) {
            String one = i < want.size() ? want.get(i) : "nothing";
            String other = i < got.size() ? got.get(i) : "nothing";
            if (!one.equals(other)) {
                System.out.println(what + ": " + one + ", then " + other);
            }
        }
    }

    void end() {
        System.out.println(right + " checks right, " + wrong + " wrong");
        if (wrong > 0 || right == 0) {
            System.exit(1);
        }
    }
}
