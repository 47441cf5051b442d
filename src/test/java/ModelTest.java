/** All promises: long runs of chosen calls, answer for answer beside the model. */
public final class ModelTest {
    private static final int RUNS = 400;
    private static final int CALLS = 512;
    private static final int METHODS = 22;
    private static final int[] EDGES = {-1, 0, 1, 2, 3, 4, 5, 6, 9, 10, 11, 12, 20, 21, 40, 41, 60, 61, 400, 401, 1000,
        1001, 5000, 5001, Integer.MAX_VALUE, Integer.MIN_VALUE};

    private static final Check check = new Check();
    private static long seed;

    public static void main(String[] args) {
        for (int run = 0; run < RUNS; run++) {
            seed = run * 7919L + 17;
            freshRun(run);
        }
        check.end();
    }

    private static void freshRun(int run) {
        CandleDip x = new CandleDip();
        Model m = new Model();
        boolean steady = run % 2 == 0;
        for (int call = 0; call < CALLS / 2; call++) {
            int method = chosenMethod(steady);
            int[] a = arguments(method, steady, m);
            String told = "run " + run + ", call " + call + ": method " + method + " of " + a[0] + ", " + a[1] + ", "
                + a[2] + ", " + a[3];
            Object due;
            try {
                due = onModel(m, method, a);
            } catch (RuntimeException e) {
                due = e.getClass();
            }
            check.due(told, due, () -> onProgram(x, method, a));
            check.due(told + ": digest() behind it", m.digest(), x::digest);
        }
    }

    private static int below(int bound) {
        seed = seed * 6364136223846793005L + 1442695040888963407L;
        return (int) ((seed >>> 33) % bound);
    }

    /** Dips, rests and cuts more often than all else, or no candle would ever be thick. */
    private static int chosenMethod(boolean steady) {
        int n = below(100);
        if (n < (steady ? 45 : 25)) {
            return 6;
        }
        if (n < (steady ? 60 : 30)) {
            return 13;
        }
        if (n < 65) {
            return 7;
        }
        return below(METHODS);
    }

    private static int[] arguments(int method, boolean steady, Model m) {
        int[] a = {below(12), below(12), below(12), below(12)};
        switch (method) {
            case 0: a[0] = below(5000) + 1; break;
            case 1: a[0] = steady ? 1 : below(6); break;
            case 2: a[0] = below(4); break;
            case 3: a[0] = below(4); a[1] = below(20) + 1; break;
            case 4: a[1] = steady ? 6 + below(6) : a[1]; break;
            case 5: a[0] = steady ? 11 : a[0]; break;
            case 6: a[0] = below(steady ? 3 : 12); break;
            case 7: a[0] = below(steady ? 3 : 12); break;
            case 8: a[1] = below(8); break;
            case 10: a[0] = below(4); a[1] = below(9) + 1; break;
            case 11: a[0] = below(2); a[1] = below(3) + 1; a[2] = below(15) + 1; a[3] = m.count(0) / 40 + below(6); break;
            case 12: a[0] = below(20); break;
            case 13: a[0] = below(steady ? 2 : 20) + 1; break;
            case 14: a[0] = below(20); a[1] = below(6); break;
            case 15: a[0] = below(9); break;
            case 16: a[1] = below(40) + 1; break;
            case 17: a[1] = below(21); a[2] = below(9) + 1; break;
            case 18: a[1] = below(9) + 1; break;
            default: break;
        }
        if (below(12) == 0) {
            a[below(4)] = EDGES[below(EDGES.length)];
        }
        return a;
    }

    private static Object onProgram(CandleDip x, int method, int[] a) {
        switch (method) {
            case 0: return x.melt(a[0]);
            case 1: return x.setFire(a[0]);
            case 2: return x.vat(a[0]);
            case 3: return x.addFrame(a[0], a[1]);
            case 4: return x.hang(a[0], a[1]);
            case 5: return x.layAside(a[0]);
            case 6: return x.dip(a[0]);
            case 7: return x.cutOff(a[0]);
            case 8: return x.frame(a[0], a[1]);
            case 9: return x.hook(a[0]);
            case 10: return x.store(a[0], a[1]);
            case 11: return x.addOrder(a[0], a[1], a[2], a[3]);
            case 12: return x.fill(a[0]);
            case 13: return x.pass(a[0]);
            case 14: return x.order(a[0], a[1]);
            case 15: return x.count(a[0]);
            case 16: return x.would(a[0], a[1]);
            case 17: return x.dipsTo(a[0], a[1], a[2]);
            case 18: return x.bestRest(a[0], a[1]);
            case 19: return x.advise();
            case 20: return x.possible();
            default: return x.mean();
        }
    }

    private static Object onModel(Model m, int method, int[] a) {
        switch (method) {
            case 0: return m.melt(a[0]);
            case 1: return m.setFire(a[0]);
            case 2: return m.vat(a[0]);
            case 3: return m.addFrame(a[0], a[1]);
            case 4: return m.hang(a[0], a[1]);
            case 5: return m.layAside(a[0]);
            case 6: return m.dip(a[0]);
            case 7: return m.cutOff(a[0]);
            case 8: return m.frame(a[0], a[1]);
            case 9: return m.hook(a[0]);
            case 10: return m.store(a[0], a[1]);
            case 11: return m.addOrder(a[0], a[1], a[2], a[3]);
            case 12: return m.fill(a[0]);
            case 13: return m.pass(a[0]);
            case 14: return m.order(a[0], a[1]);
            case 15: return m.count(a[0]);
            case 16: return m.would(a[0], a[1]);
            case 17: return m.dipsTo(a[0], a[1], a[2]);
            case 18: return m.bestRest(a[0], a[1]);
            case 19: return m.advise();
            case 20: return m.possible();
            default: return m.mean();
        }
    }
}
