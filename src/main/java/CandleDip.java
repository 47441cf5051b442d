/** A workshop of candle dippers: a vat of wax, frames of wicks, a store of candles, and orders. */
public final class CandleDip {
    private static final int KINDS = 4;
    private static final int SIZES = 9;
    private static final int MOST_WAX = 20000;
    private static final int MOST_WAX_AT_ONCE = 5000;
    private static final int ROOM_HEAT = 20;
    private static final int MELTING_HEAT = 60;
    private static final int MOST_HEAT = 120;
    private static final int MOST_LEVEL = 5;
    private static final int MOST_FRAMES = 12;
    private static final int MOST_WICKS = 20;
    private static final int MOST_THICKNESS = 400;
    private static final int MOST_WARMTH = 100;
    private static final int HOOKS = 12;
    private static final int HOOKS_OF_A_RACK = 6;
    private static final int ASIDE = -1;
    private static final int MOST_ORDERS = 20;
    private static final int MOST_ORDERED = 60;
    private static final int LAST_DAY = 1000;
    private static final int QUARTERS_OF_A_DAY = 40;
    private static final int MOST_QUARTERS = 400;
    private static final int MOST_TRIAL_DIPS = 40;
    private static final int MOST_DIPS_TO_SIZE = 60;
    private static final int MOST_REST = 20;
    private static final int OPEN = 0;
    private static final int FILLED = 1;
    private static final int LATE = 2;

    private final Vat vat;
    /** By their numbers; null where none was made yet. */
    private final Frame[] frames;
    private final Store store;
    /** By their numbers; null where none was taken yet. */
    private final Order[] orders;
    /** Kept and used again, so that asking what would be makes no new objects. */
    private final Trial trial;
    /** Used only by possible(): at k the fewest candles that k of the orders want; at 0 always 0. */
    private final int[] fewestCandles;
    private int quarter;
    private int dipsInAll;
    private int thrownAway;

    public CandleDip() {
        vat = new Vat();
        frames = new Frame[MOST_FRAMES];
        store = new Store();
        orders = new Order[MOST_ORDERS];
        trial = new Trial();
        fewestCandles = new int[MOST_ORDERS + 1];
    }

    // ---- the vat

    public int melt(int wax) throws IllegalArgumentException, IllegalStateException {
        if (!within(wax, 1, MOST_WAX_AT_ONCE)) {
            throw new IllegalArgumentException("wax is not 1 to 5000");
        }
        if (vat.wax + wax > MOST_WAX) {
            throw new IllegalStateException("there would be more than 20000 wax");
        }
        vat.throwIn(wax);
        return vat.heat;
    }

    public int setFire(int level) throws IllegalArgumentException {
        if (!within(level, 0, MOST_LEVEL)) {
            throw new IllegalArgumentException("level is not 0 to 5");
        }
        int before = vat.level;
        vat.level = level;
        return before;
    }

    public int vat(int what) throws IndexOutOfBoundsException {
        switch (what) {
            case 0: return vat.wax;
            case 1: return vat.heat;
            case 2: return vat.level;
            case 3: return vat.isMelted() ? 1 : 0;
            default: throw new IndexOutOfBoundsException("what is not 0 to 3");
        }
    }

    // ---- frames and racks

    public int addFrame(int kind, int wicks) throws IllegalArgumentException, IllegalStateException {
        if (!within(kind, 0, KINDS - 1) || !within(wicks, 1, MOST_WICKS)) {
            throw new IllegalArgumentException("kind is not 0 to 3, or wicks is not 1 to 20");
        }
        int number = framesMade();
        if (number >= frames.length) {
            throw new IllegalStateException("there are 12 frames");
        }
        frames[number] = new Frame(kind, wicks);
        return number;
    }

    public int hang(int frame, int hook)
            throws IndexOutOfBoundsException, IllegalArgumentException, IllegalStateException {
        Frame moved = frameAt(frame);
        if (!within(hook, 0, HOOKS - 1)) {
            throw new IllegalArgumentException("hook is not 0 to 11");
        }
        int there = frameOn(hook);
        if (there >= 0 && there != frame) {
            throw new IllegalStateException("another frame hangs there");
        }
        int before = moved.place;
        moved.place = hook;
        return before;
    }

    public int layAside(int frame) throws IndexOutOfBoundsException, IllegalStateException {
        Frame moved = frameAt(frame);
        if (!moved.hangs()) {
            throw new IllegalStateException("the frame lies aside");
        }
        int before = moved.place;
        moved.place = ASIDE;
        return before;
    }

    public int dip(int frame) throws IndexOutOfBoundsException, IllegalStateException {
        Frame dipped = frameAt(frame);
        if (!dipped.canBeDipped(vat)) {
            throw new IllegalStateException("the frame cannot be dipped");
        }
        dipped.immerse(vat);
        dipsInAll++;
        letQuarterGo(dipped);
        return dipped.thickness;
    }

    public int cutOff(int frame) throws IndexOutOfBoundsException, IllegalStateException {
        Frame ready = frameAt(frame);
        if (ready.isBare() || ready.isTooWarmToCut()) {
            throw new IllegalStateException("bare wicks, or too warm");
        }
        int size = ready.size();
        if (size == 0) {
            thrownAway += ready.wicks;
            vat.takeBack(ready.waxOf(ready.thickness));
        } else {
            store.put(ready.kind, size, ready.wicks);
        }
        ready.renewWicks();
        return size;
    }

    public int frame(int frame, int what) throws IndexOutOfBoundsException {
        Frame asked = frameAt(frame);
        switch (what) {
            case 0: return asked.kind;
            case 1: return asked.wicks;
            case 2: return asked.thickness;
            case 3: return asked.warmth;
            case 4: return asked.cracked ? 1 : 0;
            case 5: return asked.place;
            case 6: return asked.dips;
            case 7: return asked.size();
            default: throw new IndexOutOfBoundsException("what is not 0 to 7");
        }
    }

    public int hook(int hook) throws IndexOutOfBoundsException {
        if (!within(hook, 0, HOOKS - 1)) {
            throw new IndexOutOfBoundsException("hook is not 0 to 11");
        }
        return frameOn(hook);
    }

    // ---- store and orders

    public int store(int kind, int size) throws IndexOutOfBoundsException {
        if (!Store.hasShelf(kind, size)) {
            throw new IndexOutOfBoundsException("kind is not 0 to 3, or size is not 1 to 9");
        }
        return store.amount(kind, size);
    }

    public int addOrder(int kind, int size, int many, int day)
            throws IllegalArgumentException, IllegalStateException {
        if (!Store.hasShelf(kind, size)) {
            throw new IllegalArgumentException("kind is not 0 to 3, or size is not 1 to 9");
        }
        if (!within(many, 1, MOST_ORDERED)) {
            throw new IllegalArgumentException("many is not 1 to 60");
        }
        if (!within(day, quarter / QUARTERS_OF_A_DAY, LAST_DAY)) {
            throw new IllegalArgumentException("day is earlier than today, or more than 1000");
        }
        int number = ordersTaken();
        if (number >= orders.length) {
            throw new IllegalStateException("there are 20 orders");
        }
        orders[number] = new Order(kind, size, many, day);
        return number;
    }

    public int fill(int order) throws IndexOutOfBoundsException, IllegalStateException {
        Order wanted = orderAt(order);
        if (!wanted.canBeFilled(store)) {
            throw new IllegalStateException("the order is filled, or the store has not enough");
        }
        store.take(wanted.kind, wanted.leastSize, wanted.many);
        wanted.state = FILLED;
        return store.total();
    }

    public int order(int order, int what) throws IndexOutOfBoundsException {
        Order asked = orderAt(order);
        switch (what) {
            case 0: return asked.kind;
            case 1: return asked.leastSize;
            case 2: return asked.many;
            case 3: return asked.day;
            case 4: return asked.state;
            case 5: return asked.canBeFilled(store) ? 1 : 0;
            default: throw new IndexOutOfBoundsException("what is not 0 to 5");
        }
    }

    // ---- quarters

    public int pass(int quarters) throws IllegalArgumentException {
        if (!within(quarters, 1, MOST_QUARTERS)) {
            throw new IllegalArgumentException("quarters is not 1 to 400");
        }
        for (int i = 0; i < quarters; i++) {
            letQuarterGo(null);
        }
        return vat.heat;
    }

    public int count(int what) throws IndexOutOfBoundsException {
        switch (what) {
            case 0: return quarter;
            case 1: return framesMade();
            case 2: return framesHanging();
            case 3: return store.total();
            case 4: return ordersTaken();
            case 5: return ordersInState(FILLED);
            case 6: return ordersInState(LATE);
            case 7: return dipsInAll;
            case 8: return thrownAway;
            default: throw new IndexOutOfBoundsException("what is not 0 to 8");
        }
    }

    // ---- what would be

    public int would(int frame, int dips)
            throws IndexOutOfBoundsException, IllegalArgumentException, IllegalStateException {
        Frame tried = frameAt(frame);
        if (!within(dips, 1, MOST_TRIAL_DIPS)) {
            throw new IllegalArgumentException("dips is not 1 to 40");
        }
        if (!tried.hangs()) {
            throw new IllegalStateException("the frame does not hang");
        }
        return trial.thicknessAfter(tried, vat, dips);
    }

    public int dipsTo(int frame, int rest, int size)
            throws IndexOutOfBoundsException, IllegalArgumentException, IllegalStateException {
        Frame tried = frameAt(frame);
        if (!within(rest, 0, MOST_REST) || !within(size, 1, SIZES)) {
            throw new IllegalArgumentException("rest is not 0 to 20, or size is not 1 to 9");
        }
        if (!tried.hangs()) {
            throw new IllegalStateException("the frame does not hang");
        }
        return trial.dipsNeeded(tried, vat, rest, size);
    }

    public int bestRest(int frame, int size)
            throws IndexOutOfBoundsException, IllegalArgumentException, IllegalStateException {
        Frame tried = frameAt(frame);
        if (!within(size, 1, SIZES)) {
            throw new IllegalArgumentException("size is not 1 to 9");
        }
        if (!tried.hangs()) {
            throw new IllegalStateException("the frame does not hang");
        }
        return trial.quickestRest(tried, vat, size);
    }

    public int advise() {
        int best = -1;
        int bestGain = 0;
        for (int i = 0; i < frames.length; i++) {
            Frame looked = frames[i];
            if (looked != null && looked.canBeDipped(vat) && looked.gain(vat.heat) > bestGain) {
                best = i;
                bestGain = looked.gain(vat.heat);
            }
        }
        return best;
    }

    public int possible() {
        int filled = 0;
        for (int kind = 0; kind < KINDS; kind++) {
            filled += possibleOfKind(kind);
        }
        return filled;
    }

    public double mean() {
        int thickness = 0;
        int wicks = 0;
        for (Frame each : frames) {
            if (each != null) {
                thickness += each.thickness * each.wicks;
                wicks += each.wicks;
            }
        }
        return wicks > 0 ? (double) thickness / (double) wicks : 0.0;
    }

    public long digest() {
        long d = 613;
        for (int what = 0; what <= 8; what++) {
            d = d * 31 + count(what);
        }
        for (int what = 0; what <= 3; what++) {
            d = d * 31 + vat(what);
        }
        for (int i = 0; i < framesMade(); i++) {
            for (int what = 0; what <= 7; what++) {
                d = d * 31 + frame(i, what);
            }
        }
        for (int kind = 0; kind < KINDS; kind++) {
            for (int size = 1; size <= SIZES; size++) {
                d = d * 31 + store(kind, size);
            }
        }
        for (int i = 0; i < ordersTaken(); i++) {
            for (int what = 0; what <= 5; what++) {
                d = d * 31 + order(i, what);
            }
        }
        return d;
    }

    private static boolean within(int number, int least, int most) {
        return number >= least && number <= most;
    }

    private Frame frameAt(int number) {
        if (number < 0 || number >= frames.length || frames[number] == null) {
            throw new IndexOutOfBoundsException("there is no such frame");
        }
        return frames[number];
    }

    private Order orderAt(int number) {
        if (number < 0 || number >= orders.length || orders[number] == null) {
            throw new IndexOutOfBoundsException("there is no such order");
        }
        return orders[number];
    }

    private int frameOn(int hook) {
        for (int i = 0; i < frames.length; i++) {
            if (frames[i] != null && frames[i].place == hook) {
                return i;
            }
        }
        return -1;
    }

    private int framesMade() {
        int made = 0;
        for (Frame each : frames) {
            if (each != null) {
                made++;
            }
        }
        return made;
    }

    private int framesHanging() {
        int hanging = 0;
        for (Frame each : frames) {
            if (each != null && each.hangs()) {
                hanging++;
            }
        }
        return hanging;
    }

    private int ordersTaken() {
        int taken = 0;
        for (Order each : orders) {
            if (each != null) {
                taken++;
            }
        }
        return taken;
    }

    private int ordersInState(int state) {
        int found = 0;
        for (Order each : orders) {
            if (each != null && each.state == state) {
                found++;
            }
        }
        return found;
    }

    /** The dipped frame (null for none) does not cool, as it is in the wax and not on its hook. */
    private void letQuarterGo(Frame dipped) {
        vat.burn();
        for (Frame each : frames) {
            if (each != null && each != dipped) {
                each.cool();
            }
        }
        quarter++;
        if (quarter % QUARTERS_OF_A_DAY == 0) {
            endDay(quarter / QUARTERS_OF_A_DAY - 1);
        }
    }

    private void endDay(int day) {
        for (Order each : orders) {
            if (each != null && each.state == OPEN && each.day <= day) {
                each.state = LATE;
            }
        }
    }

    /**
     * Orders of a greater size may use only a part of what the smaller ones may. So, from the
     * greatest size down, some orders can be filled together just when at each size all of them
     * so far want no more candles than there are of this size or a greater one.
     */
    private int possibleOfKind(int kind) {
        int filled = 0;
        for (int size = SIZES; size >= 1; size--) {
            int supply = store.amountFrom(kind, size);
            for (Order each : orders) {
                if (each != null && each.isOpenFor(kind, size)) {
                    filled = planOneMore(filled, each.many, supply);
                }
            }
        }
        return filled;
    }

    /** Brings fewestCandles up to date with one order more, and tells how many can be filled now. */
    private int planOneMore(int filled, int many, int supply) {
        int next = filled + 1;
        if (filled < 0 || next >= fewestCandles.length) {
            return filled;
        }
        fewestCandles[next] = fewestCandles[filled] + many;
        for (int k = filled; k >= 1; k--) {
            fewestCandles[k] = Math.min(fewestCandles[k], fewestCandles[k - 1] + many);
        }
        return fewestCandles[next] <= supply ? next : filled;
    }

    private static final class Vat {
        int wax;
        int heat = ROOM_HEAT;
        int level;

        boolean isMelted() {
            return heat >= MELTING_HEAT;
        }

        void throwIn(int added) {
            int all = wax + added;
            if (all > 0) {
                heat = (heat * wax + ROOM_HEAT * added) / all;
            }
            wax = all;
        }

        void takeBack(int scraped) {
            wax = Math.min(MOST_WAX, wax + scraped);
        }

        void burn() {
            int heated = heat + 6 * level;
            int left = heated - (heated - ROOM_HEAT) / 10;
            heat = Math.max(0, Math.min(MOST_HEAT, left));
        }

        void copyFrom(Vat other) {
            wax = other.wax;
            heat = other.heat;
            level = other.level;
        }
    }

    private static final class Frame {
        int kind;
        int wicks;
        int thickness;
        int warmth;
        boolean cracked;
        int place = ASIDE;
        int dips;

        Frame(int kind, int wicks) {
            this.kind = kind;
            this.wicks = wicks;
        }

        boolean hangs() {
            return place != ASIDE;
        }

        boolean isBare() {
            return thickness == 0;
        }

        boolean isTooWarmToCut() {
            return warmth > 20;
        }

        boolean meltsWhenDipped() {
            return warmth > 70;
        }

        int waxOf(int layer) {
            return layer * (8 + kind) * wicks / 10;
        }

        boolean canBeDipped(Vat vat) {
            return hangs() && vat.isMelted() && waxOf(gain(vat.heat)) <= vat.wax;
        }

        /** How much is taken up by a dip; nothing, if the candles melt in it. */
        int gain(int heat) {
            if (meltsWhenDipped()) {
                return 0;
            }
            int growth = 12 - (heat - MELTING_HEAT) / 8;
            if (isBare()) {
                growth += 4;
            }
            if (kind == 3) {
                growth -= 3;
            }
            return Math.min(growth, MOST_THICKNESS - thickness);
        }

        void immerse(Vat vat) {
            dips++;
            if (meltsWhenDipped()) {
                meltOff(vat.heat);
            } else {
                takeUp(vat);
            }
        }

        private void meltOff(int heat) {
            thickness = Math.max(0, thickness - (heat - 55) / 5);
            if (isBare()) {
                cracked = false;
            }
            warmth = MOST_WARMTH;
        }

        private void takeUp(Vat vat) {
            int layer = gain(vat.heat);
            if (!isBare() && warmth < 10) {
                cracked = true;
            }
            vat.wax -= waxOf(layer);
            thickness += layer;
            warmth = Math.min(MOST_WARMTH, (warmth + vat.heat) / 2);
        }

        void cool() {
            warmth = Math.max(0, warmth - coolingOfPlace());
        }

        private int coolingOfPlace() {
            if (!hangs()) {
                return 3;
            }
            return place < HOOKS_OF_A_RACK ? 12 : 6;
        }

        int size() {
            return Math.min(SIZES, thickness / (cracked ? 80 : 40));
        }

        void renewWicks() {
            thickness = 0;
            warmth = 0;
            cracked = false;
            dips = 0;
        }

        void copyFrom(Frame other) {
            kind = other.kind;
            wicks = other.wicks;
            thickness = other.thickness;
            warmth = other.warmth;
            cracked = other.cracked;
            place = other.place;
            dips = other.dips;
        }
    }

    /** What would become of one frame and the vat, on copies of both. */
    private static final class Trial {
        private final Frame frame = new Frame(0, 1);
        private final Vat vat = new Vat();

        int thicknessAfter(Frame real, Vat realVat, int dips) {
            begin(real, realVat);
            for (int i = 0; i < dips; i++) {
                if (!tryDip()) {
                    break;
                }
            }
            return frame.thickness;
        }

        int dipsNeeded(Frame real, Vat realVat, int rest, int size) {
            begin(real, realVat);
            if (frame.size() >= size) {
                return 0;
            }
            for (int dips = 1; dips <= MOST_DIPS_TO_SIZE; dips++) {
                if (!tryDip()) {
                    return -1;
                }
                if (frame.size() >= size) {
                    return dips;
                }
                letRest(rest);
            }
            return -1;
        }

        int quickestRest(Frame real, Vat realVat, int size) {
            int best = -1;
            int fewestQuarters = 0;
            for (int rest = 0; rest <= MOST_REST; rest++) {
                int dips = dipsNeeded(real, realVat, rest, size);
                if (dips == 0) {
                    return 0;
                }
                int quarters = dips + (dips - 1) * rest;
                if (dips > 0 && (best < 0 || quarters < fewestQuarters)) {
                    best = rest;
                    fewestQuarters = quarters;
                }
            }
            return best;
        }

        private void begin(Frame real, Vat realVat) {
            frame.copyFrom(real);
            vat.copyFrom(realVat);
        }

        private boolean tryDip() {
            if (!frame.canBeDipped(vat)) {
                return false;
            }
            frame.immerse(vat);
            vat.burn();
            return true;
        }

        private void letRest(int quarters) {
            for (int i = 0; i < quarters; i++) {
                vat.burn();
                frame.cool();
            }
        }
    }

    private static final class Store {
        private final int[] shelves = new int[KINDS * SIZES];

        static boolean hasShelf(int kind, int size) {
            return within(kind, 0, KINDS - 1) && within(size, 1, SIZES);
        }

        int amount(int kind, int size) {
            return hasShelf(kind, size) ? shelves[kind * SIZES + size - 1] : 0;
        }

        int amountFrom(int kind, int leastSize) {
            int sum = 0;
            for (int size = leastSize; size <= SIZES; size++) {
                sum += amount(kind, size);
            }
            return sum;
        }

        int total() {
            int sum = 0;
            for (int amount : shelves) {
                sum += amount;
            }
            return sum;
        }

        void put(int kind, int size, int many) {
            if (hasShelf(kind, size)) {
                shelves[kind * SIZES + size - 1] += many;
            }
        }

        void take(int kind, int leastSize, int many) {
            int wanted = many;
            for (int size = leastSize; size <= SIZES; size++) {
                int taken = Math.min(wanted, amount(kind, size));
                put(kind, size, -taken);
                wanted -= taken;
            }
        }
    }

    private static final class Order {
        final int kind;
        final int leastSize;
        final int many;
        final int day;
        int state = OPEN;

        Order(int kind, int leastSize, int many, int day) {
            this.kind = kind;
            this.leastSize = leastSize;
            this.many = many;
            this.day = day;
        }

        boolean isOpenFor(int wantedKind, int wantedSize) {
            return state == OPEN && kind == wantedKind && leastSize == wantedSize;
        }

        boolean canBeFilled(Store store) {
            return state != FILLED && store.amountFrom(kind, leastSize) >= many;
        }
    }
}
