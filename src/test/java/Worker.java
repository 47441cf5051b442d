/**
 * Chooses the calls of a long run by what the model tells, so that candles become thick, are cut
 * off and sold; with questions in between, and now and then a call with any numbers at all.
 */
final class Worker {
    static final int METHODS = 22;
    private static final int[] EDGES = {-1, 0, 1, 2, 3, 4, 5, 6, 9, 10, 11, 12, 19, 20, 21, 40, 41, 60, 61, 400, 401,
        1000, 1001, 5000, 5001, Integer.MAX_VALUE, Integer.MIN_VALUE};

    private final Model m;
    private final int frames;
    private final int fire;
    private long seed;
    private int dipsLeft;
    private int turn;

    Worker(Model m, long seed) {
        this.m = m;
        this.seed = seed;
        frames = 2 + below(4);
        fire = below(3) == 0 ? 1 + below(5) : 1;
        newBatch();
    }

    /** The number of the method, and four arguments. */
    int[] nextCall() {
        int chance = below(100);
        if (chance < 6) {
            return new int[] {below(METHODS), anyNumber(), anyNumber(), anyNumber(), anyNumber()};
        }
        if (m.count(1) < frames) {
            return call(3, below(4), 1 + below(20), 0, 0);
        }
        if (chance < 30) {
            return question();
        }
        if (chance < 40) {
            return trade();
        }
        return work();
    }

    private int below(int bound) {
        seed = seed * 6364136223846793005L + 1442695040888963407L;
        return (int) ((seed >>> 33) % bound);
    }

    private int anyNumber() {
        return below(2) == 0 ? below(13) : EDGES[below(EDGES.length)];
    }

    private static int[] call(int method, int a, int b, int c, int d) {
        return new int[] {method, a, b, c, d};
    }

    private int[] question() {
        int frame = below(m.count(1));
        switch (below(10)) {
            case 0: return call(2, below(4), 0, 0, 0);
            case 1: return call(8, frame, below(8), 0, 0);
            case 2: return call(9, below(12), 0, 0, 0);
            case 3: return call(10, below(4), 1 + below(4), 0, 0);
            case 4: return call(15, below(9), 0, 0, 0);
            case 5: return call(16, frame, 1 + below(40), 0, 0);
            case 6: return call(17, frame, below(21), 1 + below(5), 0);
            case 7: return call(18, frame, 1 + below(5), 0, 0);
            case 8: return call(19, 0, 0, 0, 0);
            default: return call(21, 0, 0, 0, 0);
        }
    }

    private int[] trade() {
        int kind = m.frame(below(m.count(1)), 0);
        int orders = m.count(4);
        switch (below(4)) {
            case 0: return call(11, kind, 1 + below(3), 1 + below(15), m.count(0) / 40 + below(8));
            case 1: return call(12, below(orders + 1), 0, 0, 0);
            case 2: return call(14, below(orders + 1), below(6), 0, 0);
            default: return call(20, 0, 0, 0, 0);
        }
    }

    private int[] work() {
        if (m.vat(0) < 1000) {
            return call(0, 3000 + below(2001), 0, 0, 0);
        }
        if (m.vat(2) == 0 || below(60) == 0) {
            return call(1, below(20) == 0 ? 0 : fire, 0, 0, 0);
        }
        if (m.vat(3) == 0) {
            return call(13, 1 + below(12), 0, 0, 0);
        }
        turn = (turn + 1) % frames;
        return dipsLeft > 0 ? dippingStep() : cuttingStep();
    }

    private int[] dippingStep() {
        dipsLeft--;
        if (m.frame(turn, 5) == -1) {
            return call(4, turn, below(6) == 0 ? below(12) : 6 + turn, 0, 0);
        }
        if (below(40) == 0) {
            return call(5, turn, 0, 0, 0);
        }
        if (m.frame(turn, 3) > 70 && below(8) > 0) {
            return call(13, 1 + below(6), 0, 0, 0);
        }
        return call(6, turn, 0, 0, 0);
    }

    private int[] cuttingStep() {
        for (int frame = 0; frame < frames; frame++) {
            if (m.frame(frame, 2) > 0) {
                return m.frame(frame, 3) > 20 ? call(13, 1 + below(10), 0, 0, 0) : call(7, frame, 0, 0, 0);
            }
        }
        newBatch();
        return call(13, 1 + below(40), 0, 0, 0);
    }

    private void newBatch() {
        dipsLeft = frames * (4 + below(14));
    }
}
