/** Promises 5, 6, 7, 10 and 11: frames, and the hooks where they hang. */
public final class FramesTest {
    private static final Check check = new Check();

    public static void main(String[] args) {
        promise05AddFrame();
        promise05Refuses();
        promise06Hang();
        promise06Refuses();
        promise07LayAside();
        promise10Frame();
        promise10Refuses();
        promise11Hook();
        check.end();
    }

    private static void promise05AddFrame() {
        CandleDip x = new CandleDip();
        check.due("5: the first frame", 0, () -> x.addFrame(0, 1));
        check.due("5: the second frame", 1, () -> x.addFrame(3, 20));
        int[] first = {0, 1, 0, 0, 0, -1, 0, 0};
        int[] second = {3, 20, 0, 0, 0, -1, 0, 0};
        for (int what = 0; what <= 7; what++) {
            int asked = what;
            check.due("5: frame(0, " + what + ") when new", first[what], () -> x.frame(0, asked));
            check.due("5: frame(1, " + what + ") when new", second[what], () -> x.frame(1, asked));
        }
        check.due("5: no quarter goes by", 0, () -> x.count(0));
    }

    private static void promise05Refuses() {
        CandleDip x = new CandleDip();
        int[][] bad = {{-1, 1}, {4, 1}, {0, 0}, {0, 21}, {0, -1}, {Integer.MAX_VALUE, 1}, {Integer.MIN_VALUE, 1},
            {0, Integer.MAX_VALUE}, {0, Integer.MIN_VALUE}};
        for (int[] b : bad) {
            check.refused("5: addFrame(" + b[0] + ", " + b[1] + ")", x, IllegalArgumentException.class,
                () -> x.addFrame(b[0], b[1]));
        }
        for (int i = 0; i < 12; i++) {
            int number = i;
            check.due("5: frame number " + i, number, () -> x.addFrame(2, 7));
        }
        check.refused("5: a 13th frame", x, IllegalStateException.class, () -> x.addFrame(2, 7));
        check.refused("5: a wrong 13th frame", x, IllegalArgumentException.class, () -> x.addFrame(4, 7));
    }

    private static void promise06Hang() {
        CandleDip x = new CandleDip();
        x.addFrame(0, 1);
        x.addFrame(1, 1);
        check.due("6: from aside", -1, () -> x.hang(0, 0));
        check.due("6: where it hangs", 0, () -> x.hang(0, 0));
        check.due("6: to another hook", 0, () -> x.hang(0, 11));
        check.due("6: to the hook that came free", -1, () -> x.hang(1, 0));
        check.due("6: place of frame 0", 11, () -> x.frame(0, 5));
        check.due("6: place of frame 1", 0, () -> x.frame(1, 5));
        check.due("6: no quarter goes by", 0, () -> x.count(0));
        check.due("6: from one hook to the next", 11, () -> x.hang(0, 5));
        check.due("6: the old hook is free", -1, () -> x.hook(11));
    }

    private static void promise06Refuses() {
        CandleDip x = new CandleDip();
        check.refused("6: no frame yet", x, IndexOutOfBoundsException.class, () -> x.hang(0, 0));
        x.addFrame(0, 1);
        x.addFrame(0, 1);
        x.hang(0, 3);
        for (int frame : new int[] {-1, 2, 12, Integer.MIN_VALUE, Integer.MAX_VALUE}) {
            check.refused("6: hang(" + frame + ", 1)", x, IndexOutOfBoundsException.class, () -> x.hang(frame, 1));
            check.refused("6: hang(" + frame + ", 12)", x, IndexOutOfBoundsException.class, () -> x.hang(frame, 12));
        }
        for (int hook : new int[] {-1, 12, Integer.MIN_VALUE, Integer.MAX_VALUE}) {
            check.refused("6: hang(1, " + hook + ")", x, IllegalArgumentException.class, () -> x.hang(1, hook));
        }
        check.refused("6: a hook that is taken", x, IllegalStateException.class, () -> x.hang(1, 3));
        x.hang(1, 4);
        check.refused("6: from a hook to one that is taken", x, IllegalStateException.class, () -> x.hang(1, 3));
        check.refused("6: frame 0 to that of frame 1", x, IllegalStateException.class, () -> x.hang(0, 4));
    }

    private static void promise07LayAside() {
        CandleDip x = new CandleDip();
        check.refused("7: no frame yet", x, IndexOutOfBoundsException.class, () -> x.layAside(0));
        x.addFrame(0, 1);
        check.refused("7: it lies aside at first", x, IllegalStateException.class, () -> x.layAside(0));
        x.hang(0, 7);
        check.due("7: from hook 7", 7, () -> x.layAside(0));
        check.due("7: it lies aside then", -1, () -> x.frame(0, 5));
        check.due("7: its hook is free", -1, () -> x.hook(7));
        check.refused("7: again", x, IllegalStateException.class, () -> x.layAside(0));
        x.hang(0, 0);
        check.due("7: from hook 0", 0, () -> x.layAside(0));
        check.due("7: no quarter goes by", 0, () -> x.count(0));
        for (int frame : new int[] {-1, 1, 12, Integer.MIN_VALUE, Integer.MAX_VALUE}) {
            check.refused("7: layAside(" + frame + ")", x, IndexOutOfBoundsException.class, () -> x.layAside(frame));
        }
    }

    private static void promise10Frame() {
        CandleDip x = Workshop.steady();
        Workshop.hung(x, 2, 9, 6);
        Workshop.grow(x, 0, 4);
        int[] due = {2, 9, 48, 46, 0, 6, 4, 1};
        for (int what = 0; what <= 7; what++) {
            int asked = what;
            check.due("10: frame(0, " + what + ") behind four dips", due[what], () -> x.frame(0, asked));
        }
        x.pass(10);
        x.dip(0);
        int[] cracked = {2, 9, 59, 37, 1, 6, 5, 0};
        for (int what = 0; what <= 7; what++) {
            int asked = what;
            check.due("10: frame(0, " + what + ") with a crack", cracked[what], () -> x.frame(0, asked));
        }
    }

    private static void promise10Refuses() {
        CandleDip x = new CandleDip();
        check.noIndex("10: no frame yet", () -> x.frame(0, 0));
        x.addFrame(0, 1);
        for (int bad : new int[] {-1, 8, 12, Integer.MIN_VALUE, Integer.MAX_VALUE}) {
            check.refused("10: frame(" + bad + ", 0)", x, IndexOutOfBoundsException.class, () -> x.frame(bad, 0));
            check.refused("10: frame(0, " + bad + ")", x, IndexOutOfBoundsException.class, () -> x.frame(0, bad));
        }
        check.noIndex("10: frame 1 of one", () -> x.frame(1, 0));
    }

    private static void promise11Hook() {
        CandleDip x = new CandleDip();
        for (int i = 0; i < 12; i++) {
            Workshop.hung(x, 0, 1, 11 - i);
        }
        for (int hook = 0; hook <= 11; hook++) {
            int asked = hook;
            check.due("11: hook(" + hook + ")", 11 - hook, () -> x.hook(asked));
        }
        x.layAside(3);
        check.due("11: hook(8) behind layAside", -1, () -> x.hook(8));
        for (int bad : new int[] {-1, 12, Integer.MIN_VALUE, Integer.MAX_VALUE}) {
            check.refused("11: hook(" + bad + ")", x, IndexOutOfBoundsException.class, () -> x.hook(bad));
        }
    }
}
