/** Counts checks, prints those that went wrong, and ends the program with 1 if there was one. */
final class Check {
    /** A call whose answer, or exception, is looked at. */
    interface Call {
        Object answer();
    }

    private int right;
    private int wrong;

    void due(String what, Object want, Call call) {
        Object got;
        try {
            got = call.answer();
        } catch (RuntimeException e) {
            got = e.getClass();
        }
        if (want.equals(got)) {
            right++;
        } else {
            wrong++;
            System.out.println(what + " answered " + got + ", due is " + want);
        }
    }

    void noIndex(String what, Call call) {
        due(what, IndexOutOfBoundsException.class, call);
    }

    void noArgument(String what, Call call) {
        due(what, IllegalArgumentException.class, call);
    }

    void noState(String what, Call call) {
        due(what, IllegalStateException.class, call);
    }

    /** Looks that a call throws the exception, and that it changes nothing. */
    void refused(String what, CandleDip x, Class<?> exception, Call call) {
        long before = x.digest();
        due(what, exception, call);
        due(what + ": digest() behind it", before, x::digest);
    }

    void end() {
        System.out.println(right + " checks right, " + wrong + " wrong");
        if (wrong > 0 || right == 0) {
            System.exit(1);
        }
    }
}
