/** All promises: long runs of chosen calls, answer for answer beside the model. */
public final class ModelTest {
    private static final int RUNS = 500;
    private static final int CALLS = 500;
    private static final int CALLS_A_DIGEST = 45;

    private static final Check check = new Check();

    public static void main(String[] args) {
        for (int run = 0; run < RUNS; run++) {
            longRun(run);
        }
        check.end();
    }

    /** With the digests in between an object is used for no more than 512 calls. */
    private static void longRun(int run) {
        CandleDip x = new CandleDip();
        Model m = new Model();
        Worker worker = new Worker(m, run * 7919L + 17);
        for (int call = 1; call <= CALLS; call++) {
            int[] a = worker.nextCall();
            String told = "run " + run + ", call " + call + ": method " + a[0] + " of " + a[1] + ", " + a[2] + ", "
                + a[3] + ", " + a[4];
            check.due(told, answerOfModel(m, a), () -> onProgram(x, a));
            if (call % CALLS_A_DIGEST == 0 || call == CALLS) {
                check.due("run " + run + ": digest() behind call " + call, m.digest(), x::digest);
            }
        }
    }

    private static Object answerOfModel(Model m, int[] a) {
        try {
            return onModel(m, a);
        } catch (RuntimeException e) {
            return e.getClass();
        }
    }

    private static Object onProgram(CandleDip x, int[] a) {
        switch (a[0]) {
            case 0: return x.melt(a[1]);
            case 1: return x.setFire(a[1]);
            case 2: return x.vat(a[1]);
            case 3: return x.addFrame(a[1], a[2]);
            case 4: return x.hang(a[1], a[2]);
            case 5: return x.layAside(a[1]);
            case 6: return x.dip(a[1]);
            case 7: return x.cutOff(a[1]);
            case 8: return x.frame(a[1], a[2]);
            case 9: return x.hook(a[1]);
            case 10: return x.store(a[1], a[2]);
            case 11: return x.addOrder(a[1], a[2], a[3], a[4]);
            case 12: return x.fill(a[1]);
            case 13: return x.pass(a[1]);
            case 14: return x.order(a[1], a[2]);
            case 15: return x.count(a[1]);
            case 16: return x.would(a[1], a[2]);
            case 17: return x.dipsTo(a[1], a[2], a[3]);
            case 18: return x.bestRest(a[1], a[2]);
            case 19: return x.advise();
            case 20: return x.possible();
            default: return x.mean();
        }
    }

    private static Object onModel(Model m, int[] a) {
        switch (a[0]) {
            case 0: return m.melt(a[1]);
            case 1: return m.setFire(a[1]);
            case 2: return m.vat(a[1]);
            case 3: return m.addFrame(a[1], a[2]);
            case 4: return m.hang(a[1], a[2]);
            case 5: return m.layAside(a[1]);
            case 6: return m.dip(a[1]);
            case 7: return m.cutOff(a[1]);
            case 8: return m.frame(a[1], a[2]);
            case 9: return m.hook(a[1]);
            case 10: return m.store(a[1], a[2]);
            case 11: return m.addOrder(a[1], a[2], a[3], a[4]);
            case 12: return m.fill(a[1]);
            case 13: return m.pass(a[1]);
            case 14: return m.order(a[1], a[2]);
            case 15: return m.count(a[1]);
            case 16: return m.would(a[1], a[2]);
            case 17: return m.dipsTo(a[1], a[2], a[3]);
            case 18: return m.bestRest(a[1], a[2]);
            case 19: return m.advise();
            case 20: return m.possible();
            default: return m.mean();
        }
    }
}
