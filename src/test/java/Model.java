import java.util.ArrayList;
import java.util.List;

/**
 * The document once more, written apart from the program and as slowly as it likes: what would be
 * is found by doing it on a copy of the whole workshop, and possible() by trying all choices.
 */
final class Model {
    private static final int KIND = 0;
    private static final int WICKS = 1;
    private static final int THICK = 2;
    private static final int WARM = 3;
    private static final int CRACK = 4;
    private static final int HOOK = 5;
    private static final int DIPS = 6;

    private int wax;
    private int heat = 20;
    private int fire;
    private int time;
    private int dipped;
    private int thrown;
    private final List<int[]> frames = new ArrayList<>();
    /** Kind, least size, many, day, state. */
    private final List<int[]> orders = new ArrayList<>();
    private final int[][] shelf = new int[4][10];

    private Model copy() {
        Model m = new Model();
        m.wax = wax;
        m.heat = heat;
        m.fire = fire;
        m.time = time;
        for (int[] f : frames) {
            m.frames.add(f.clone());
        }
        return m;
    }

    private static void index(boolean ok) {
        if (!ok) {
            throw new IndexOutOfBoundsException();
        }
    }

    private static void argument(boolean ok) {
        if (!ok) {
            throw new IllegalArgumentException();
        }
    }

    private static void state(boolean ok) {
        if (!ok) {
            throw new IllegalStateException();
        }
    }

    private static int between(int least, int n, int most) {
        return n < least ? least : n > most ? most : n;
    }

    private int[] known(int frame) {
        index(frame >= 0 && frame < frames.size());
        return frames.get(frame);
    }

    private void quarter(int[] butNot) {
        int n = heat + 6 * fire;
        heat = between(0, n - (n - 20) / 10, 120);
        for (int[] f : frames) {
            if (f != butNot) {
                int loss = f[HOOK] == -1 ? 3 : f[HOOK] / 6 == 0 ? 12 : 6;
                f[WARM] = between(0, f[WARM] - loss, 100);
            }
        }
        time++;
        for (int[] o : orders) {
            if (time % 40 == 0 && o[4] == 0 && (o[3] + 1) * 40 <= time) {
                o[4] = 2;
            }
        }
    }

    int melt(int more) {
        argument(more >= 1 && more <= 5000);
        state(wax + more <= 20000);
        heat = (heat * wax + 20 * more) / (wax + more);
        wax += more;
        return heat;
    }

    int setFire(int level) {
        argument(level >= 0 && level <= 5);
        int was = fire;
        fire = level;
        return was;
    }

    int vat(int what) {
        index(what >= 0 && what <= 3);
        return new int[] {wax, heat, fire, heat >= 60 ? 1 : 0}[what];
    }

    int addFrame(int kind, int wicks) {
        argument(kind >= 0 && kind <= 3 && wicks >= 1 && wicks <= 20);
        state(frames.size() < 12);
        frames.add(new int[] {kind, wicks, 0, 0, 0, -1, 0});
        return frames.size() - 1;
    }

    int hang(int frame, int hook) {
        int[] f = known(frame);
        argument(hook >= 0 && hook <= 11);
        int there = hook(hook);
        state(there == -1 || there == frame);
        int was = f[HOOK];
        f[HOOK] = hook;
        return was;
    }

    int layAside(int frame) {
        int[] f = known(frame);
        state(f[HOOK] != -1);
        int was = f[HOOK];
        f[HOOK] = -1;
        return was;
    }

    int dip(int frame) {
        int[] f = known(frame);
        state(f[HOOK] != -1);
        state(heat >= 60);
        if (f[WARM] > 70) {
            f[THICK] = between(0, f[THICK] - (heat - 55) / 5, 400);
            if (f[THICK] == 0) {
                f[CRACK] = 0;
            }
            f[WARM] = 100;
        } else {
            boolean bare = f[THICK] == 0;
            int g = 12 - (heat - 60) / 8 + (bare ? 4 : 0) - (f[KIND] == 3 ? 3 : 0);
            if (g > 400 - f[THICK]) {
                g = 400 - f[THICK];
            }
            int taken = g * (8 + f[KIND]) * f[WICKS] / 10;
            state(taken <= wax);
            wax -= taken;
            f[THICK] += g;
            if (!bare && f[WARM] < 10) {
                f[CRACK] = 1;
            }
            f[WARM] = between(0, (f[WARM] + heat) / 2, 100);
        }
        f[DIPS]++;
        dipped++;
        quarter(f);
        return f[THICK];
    }

    private static int sizeOf(int[] f) {
        int size = f[CRACK] == 1 ? f[THICK] / 80 : f[THICK] / 40;
        return size > 9 ? 9 : size;
    }

    int cutOff(int frame) {
        int[] f = known(frame);
        state(f[THICK] > 0 && f[WARM] <= 20);
        int size = sizeOf(f);
        if (size == 0) {
            thrown += f[WICKS];
            wax = between(0, wax + f[THICK] * (8 + f[KIND]) * f[WICKS] / 10, 20000);
        } else {
            shelf[f[KIND]][size] += f[WICKS];
        }
        f[THICK] = 0;
        f[WARM] = 0;
        f[CRACK] = 0;
        f[DIPS] = 0;
        return size;
    }

    int frame(int frame, int what) {
        int[] f = known(frame);
        index(what >= 0 && what <= 7);
        return what == 7 ? sizeOf(f) : f[what];
    }

    int hook(int hook) {
        index(hook >= 0 && hook <= 11);
        for (int i = 0; i < frames.size(); i++) {
            if (frames.get(i)[HOOK] == hook) {
                return i;
            }
        }
        return -1;
    }

    int store(int kind, int size) {
        index(kind >= 0 && kind <= 3 && size >= 1 && size <= 9);
        return shelf[kind][size];
    }

    int addOrder(int kind, int size, int many, int day) {
        argument(kind >= 0 && kind <= 3 && size >= 1 && size <= 9 && many >= 1 && many <= 60);
        argument(day >= time / 40 && day <= 1000);
        state(orders.size() < 20);
        orders.add(new int[] {kind, size, many, day, 0});
        return orders.size() - 1;
    }

    private boolean suffices(int[] o) {
        int there = 0;
        for (int size = o[1]; size <= 9; size++) {
            there += shelf[o[0]][size];
        }
        return there >= o[2];
    }

    private static void takeOneByOne(int[] sizes, int least, int many) {
        int size = least;
        for (int left = many; left > 0; left--) {
            while (sizes[size] == 0) {
                size++;
            }
            sizes[size]--;
        }
    }

    int fill(int order) {
        index(order >= 0 && order < orders.size());
        int[] o = orders.get(order);
        state(o[4] != 1 && suffices(o));
        takeOneByOne(shelf[o[0]], o[1], o[2]);
        o[4] = 1;
        return count(3);
    }

    int order(int order, int what) {
        index(order >= 0 && order < orders.size() && what >= 0 && what <= 5);
        int[] o = orders.get(order);
        return what == 5 ? o[4] != 1 && suffices(o) ? 1 : 0 : o[what];
    }

    int pass(int quarters) {
        argument(quarters >= 1 && quarters <= 400);
        for (int i = 0; i < quarters; i++) {
            quarter(null);
        }
        return heat;
    }

    int count(int what) {
        index(what >= 0 && what <= 8);
        int hanging = 0;
        for (int[] f : frames) {
            hanging += f[HOOK] == -1 ? 0 : 1;
        }
        int candles = 0;
        for (int[] sizes : shelf) {
            for (int n : sizes) {
                candles += n;
            }
        }
        int[] inState = new int[3];
        for (int[] o : orders) {
            inState[o[4]]++;
        }
        return new int[] {time, frames.size(), hanging, candles, orders.size(), inState[1], inState[2], dipped,
            thrown}[what];
    }

    int would(int frame, int dips) {
        int[] f = known(frame);
        argument(dips >= 1 && dips <= 40);
        state(f[HOOK] != -1);
        Model m = copy();
        try {
            for (int i = 0; i < dips; i++) {
                m.dip(frame);
            }
        } catch (IllegalStateException e) {
            // As far as it could be.
        }
        return m.frame(frame, 2);
    }

    int dipsTo(int frame, int rest, int size) {
        int[] f = known(frame);
        argument(rest >= 0 && rest <= 20 && size >= 1 && size <= 9);
        state(f[HOOK] != -1);
        Model m = copy();
        int dips = 0;
        try {
            while (dips < 60 && m.frame(frame, 7) < size) {
                for (int i = 0; dips > 0 && i < rest; i++) {
                    m.pass(1);
                }
                m.dip(frame);
                dips++;
            }
        } catch (IllegalStateException e) {
            return -1;
        }
        return m.frame(frame, 7) >= size ? dips : -1;
    }

    int bestRest(int frame, int size) {
        int[] f = known(frame);
        argument(size >= 1 && size <= 9);
        state(f[HOOK] != -1);
        if (sizeOf(f) >= size) {
            return 0;
        }
        int best = -1;
        int least = Integer.MAX_VALUE;
        for (int rest = 20; rest >= 0; rest--) {
            int dips = dipsTo(frame, rest, size);
            if (dips != -1 && dips + rest * (dips - 1) <= least) {
                best = rest;
                least = dips + rest * (dips - 1);
            }
        }
        return best;
    }

    int advise() {
        int best = -1;
        int most = 0;
        for (int i = frames.size() - 1; i >= 0; i--) {
            if (frames.get(i)[HOOK] != -1) {
                int thicker = would(i, 1) - frames.get(i)[THICK];
                if (thicker > 0 && thicker >= most) {
                    best = i;
                    most = thicker;
                }
            }
        }
        return best;
    }

    int possible() {
        int sum = 0;
        for (int kind = 0; kind <= 3; kind++) {
            List<int[]> open = new ArrayList<>();
            for (int size = 9; size >= 1; size--) {
                for (int[] o : orders) {
                    if (o[0] == kind && o[1] == size && o[4] == 0) {
                        open.add(o);
                    }
                }
            }
            sum += mostOf(open, 0, shelf[kind].clone());
        }
        return sum;
    }

    /** Tries each order with and without; those of the greatest least size come first. */
    private static int mostOf(List<int[]> open, int at, int[] sizes) {
        if (at == open.size()) {
            return 0;
        }
        int without = mostOf(open, at + 1, sizes);
        int[] o = open.get(at);
        int there = 0;
        for (int size = o[1]; size <= 9; size++) {
            there += sizes[size];
        }
        if (there < o[2]) {
            return without;
        }
        int[] left = sizes.clone();
        takeOneByOne(left, o[1], o[2]);
        return Math.max(without, 1 + mostOf(open, at + 1, left));
    }

    double mean() {
        int sum = 0;
        int wicks = 0;
        for (int[] f : frames) {
            for (int i = 0; i < f[WICKS]; i++) {
                sum += f[THICK];
                wicks++;
            }
        }
        return wicks == 0 ? 0 : (double) sum / wicks;
    }

    long digest() {
        List<Integer> told = new ArrayList<>();
        for (int what = 0; what <= 8; what++) {
            told.add(count(what));
        }
        for (int what = 0; what <= 3; what++) {
            told.add(vat(what));
        }
        for (int i = 0; i < frames.size(); i++) {
            for (int what = 0; what <= 7; what++) {
                told.add(frame(i, what));
            }
        }
        for (int kind = 0; kind <= 3; kind++) {
            for (int size = 1; size <= 9; size++) {
                told.add(store(kind, size));
            }
        }
        for (int i = 0; i < orders.size(); i++) {
            for (int what = 0; what <= 5; what++) {
                told.add(order(i, what));
            }
        }
        long d = 613;
        for (int x : told) {
            d = d * 31 + x;
        }
        return d;
    }
}
