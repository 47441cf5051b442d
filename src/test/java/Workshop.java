/** Workshops that several tests start from. */
final class Workshop {
    private Workshop() {
    }

    /** Wax in the vat, and a fire at the level for so many quarters. */
    static CandleDip heated(int wax, int level, int quarters) {
        CandleDip x = new CandleDip();
        for (int left = wax; left > 0; left -= 5000) {
            x.melt(Math.min(left, 5000));
        }
        x.setFire(level);
        x.pass(quarters);
        return x;
    }

    /** A full vat that stays at the heat 74, at the quarter 40: bare wicks take up 15, others 11. */
    static CandleDip steady() {
        return heated(20000, 1, 40);
    }

    /** A vat that stays at the heat 120, at the quarter 20: bare wicks take up 9, others 5. */
    static CandleDip hot(int wax) {
        return heated(wax, 5, 20);
    }

    /** A vat of 3000 wax or more that has just this heat, 58 to 120, with a fire of the level 5. */
    static CandleDip atHeat(int heat) {
        CandleDip x = hot(3000);
        coolTo(x, heat);
        return x;
    }

    /** Throws just so much wax into the vat that its heat falls to this one. */
    static void coolTo(CandleDip x, int heat) {
        int wax = x.vat(0) * (x.vat(1) - heat) / (heat - 20);
        if (wax > 0) {
            x.melt(wax);
        }
    }

    /** Makes a frame and hangs it. */
    static int hung(CandleDip x, int kind, int wicks, int hook) {
        int frame = x.addFrame(kind, wicks);
        x.hang(frame, hook);
        return frame;
    }

    /** A workshop that stays at 74, with so many frames of one wick on the hooks from 0. */
    static CandleDip withFrames(int frames) {
        CandleDip x = steady();
        for (int i = 0; i < frames; i++) {
            hung(x, i % 4, 1, i);
        }
        return x;
    }

    /** A new workshop with so many orders. */
    static CandleDip withOrders(int orders) {
        CandleDip x = new CandleDip();
        for (int i = 0; i < orders; i++) {
            x.addOrder(i % 4, i % 9 + 1, 3 * i + 1, i);
        }
        return x;
    }

    /**
     * Dips a frame of rack 1 with a rest of two quarters behind each dip; at the heat 74 it neither melts nor
     * cracks.
     */
    static void grow(CandleDip x, int frame, int dips) {
        for (int i = 0; i < dips; i++) {
            x.dip(frame);
            x.pass(2);
        }
    }

    /** Dips the frame again and again without a rest. */
    static void dipOften(CandleDip x, int frame, int dips) {
        for (int i = 0; i < dips; i++) {
            x.dip(frame);
        }
    }

    /** Brings candles of a frame of rack 1, in a steady workshop, to the thickness 4 + 11 * dips and into the store. */
    static int harvest(CandleDip x, int frame, int dips) {
        grow(x, frame, dips);
        x.pass(10);
        return x.cutOff(frame);
    }

    /**
     * Frame 0, of kind 0 on hook 6, with whole candles of this thickness: 9, 14, 19 .. 399, all taken
     * up at 120, or 10, 15, 20 .. 400, begun at 114. The vat stays at 120, and 8 * wicks / 10 of its
     * wax are gone for each 1 of the thickness if the wicks are 5, 10, 15 or 20.
     */
    static CandleDip thick(int wax, int wicks, int thickness) {
        return layered(wax, wicks, thickness, 7);
    }

    /** As thick(), but with a crack, if the thickness is 14 or more. */
    static CandleDip cracked(int wax, int wicks, int thickness) {
        return layered(wax, wicks, thickness, 20);
    }

    private static CandleDip layered(int wax, int wicks, int thickness, int firstRest) {
        CandleDip x = heated(wax, 5, thickness % 5 == 0 ? 4 : 20);
        int frame = hung(x, 0, wicks, 6);
        int dips = thickness / 5 - (thickness % 5 == 0 ? 1 : 0);
        for (int i = 0; i < dips; i++) {
            x.dip(frame);
            x.pass(i == 0 ? firstRest : 7);
        }
        return x;
    }

    /**
     * Something of everything. Frames: 0 and 1 on rack 1, bare and warm; 2 on rack 0, with a crack;
     * 3 aside and bare; 4 aside and hot. Orders: 0 open, with just candles enough; 1 late; 2 filled; 3 open, without.
     */
    static CandleDip busy() {
        CandleDip x = steady();
        hung(x, 2, 5, 6);
        harvest(x, 0, 4);
        harvest(x, 0, 7);
        hung(x, 1, 4, 7);
        harvest(x, 1, 4);
        int today = x.count(0) / 40;
        x.addOrder(2, 2, 5, 900);
        x.addOrder(2, 1, 3, today);
        x.addOrder(2, 1, 2, today);
        x.fill(2);
        x.pass(40);
        x.addOrder(1, 2, 1, 1000);
        hung(x, 3, 20, 0);
        x.dip(2);
        x.pass(5);
        x.dip(2);
        x.addFrame(0, 1);
        hung(x, 0, 2, 11);
        dipOften(x, 4, 6);
        x.layAside(4);
        dipOften(x, 1, 2);
        return x;
    }
}
