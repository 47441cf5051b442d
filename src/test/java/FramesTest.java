/** Promises 5, 6, 7, 10 and 11: frames, and the hooks where they hang. */
public final class FramesTest {
    private static final Check check = new Check();

    public static void main(String[] args) {
        promise05AddFrame();
        promise06Hang();
        promise07LayAside();
        promise10Frame();
        promise11Hook();
        check.end();
    }

    private static void promise05AddFrame() {
        CandleDip x = new CandleDip();
        check.due("5: the first frame", 0, () -> x.addFrame(0, 1));
        check.due("5: the second frame", 1, () -> x.addFrame(3, 20));
        check.frameDue("5: when new", x, 0, 0, 1, 0, 0, 0, -1, 0, 0);
        check.frameDue("5: when new", x, 1, 3, 20, 0, 0, 0, -1, 0, 0);
        check.due("5: no quarter goes by", 0, () -> x.count(0));
    }

    private static void promise06Hang() {
        CandleDip x = new CandleDip();
        x.addFrame(0, 1);
        x.addFrame(1, 1);
        check.due("6: from aside", -1, () -> x.hang(0, 0));
        check.due("6: where it hangs", 0, () -> x.hang(0, 0));
        check.due("6: to another hook", 0, () -> x.hang(0, 11));
        check.due("6: to the hook that came free", -1, () -> x.hang(1, 0));
        check.due("6: place of frame 0", 11, () -> x.frame(0, 5));
        check.due("6: place of frame 1", 0, () -> x.frame(1, 5));
        check.due("6: no quarter goes by", 0, () -> x.count(0));
        check.due("6: from one hook to the next", 11, () -> x.hang(0, 5));
        check.due("6: the old hook is free", -1, () -> x.hook(11));
    }

    private static void promise07LayAside() {
        CandleDip x = new CandleDip();
        x.addFrame(0, 1);
        x.hang(0, 7);
        check.due("7: from hook 7", 7, () -> x.layAside(0));
        check.due("7: it lies aside then", -1, () -> x.frame(0, 5));
        check.due("7: its hook is free", -1, () -> x.hook(7));
        x.hang(0, 0);
        check.due("7: from hook 0", 0, () -> x.layAside(0));
        check.due("7: no quarter goes by", 0, () -> x.count(0));
    }

    private static void promise10Frame() {
        CandleDip x = Workshop.steady();
        Workshop.hung(x, 2, 9, 6);
        Workshop.grow(x, 0, 4);
        check.frameDue("10: behind four dips", x, 0, 2, 9, 48, 46, 0, 6, 4, 1);
        x.pass(10);
        x.dip(0);
        check.frameDue("10: with a crack", x, 0, 2, 9, 59, 37, 1, 6, 5, 0);
    }

    private static void promise11Hook() {
        CandleDip x = new CandleDip();
        for (int i = 0; i < 12; i++) {
            Workshop.hung(x, 0, 1, 11 - i);
        }
        for (int hook = 0; hook <= 11; hook++) {
            int asked = hook;
            check.due("11: hook(" + hook + ")", 11 - hook, () -> x.hook(asked));
        }
        x.layAside(3);
        check.due("11: hook(8) behind layAside", -1, () -> x.hook(8));
    }
}
