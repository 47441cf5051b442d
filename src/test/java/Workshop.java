/** Workshops that several tests start from. */
final class Workshop {
    private Workshop() {
    }

    /** Wax in the vat, and a fire at the level for so many quarters. */
    static CandleDip heated(int wax, int level, int quarters) {
        CandleDip x = new CandleDip();
        for (int left = wax; left > 0; left -= 5000) {
            x.melt(Math.min(left, 5000));
        }
        x.setFire(level);
        x.pass(quarters);
        return x;
    }

    /** A full vat that stays at the heat 74, at the quarter 40: bare wicks take up 15, others 11. */
    static CandleDip steady() {
        return heated(20000, 1, 40);
    }

    /** Makes a frame and hangs it. */
    static int hung(CandleDip x, int kind, int wicks, int hook) {
        int frame = x.addFrame(kind, wicks);
        x.hang(frame, hook);
        return frame;
    }

    /** Dips a frame of rack 1 with a rest of two quarters behind each dip; at the heat 74 it neither melts nor cracks. */
    static void grow(CandleDip x, int frame, int dips) {
        for (int i = 0; i < dips; i++) {
            x.dip(frame);
            x.pass(2);
        }
    }

    /** Dips the frame again and again without a rest. */
    static void dipOften(CandleDip x, int frame, int dips) {
        for (int i = 0; i < dips; i++) {
            x.dip(frame);
        }
    }

    /** Brings candles of a frame of rack 1, in a steady workshop, to the thickness 4 + 11 * dips and into the store. */
    static int harvest(CandleDip x, int frame, int dips) {
        grow(x, frame, dips);
        x.pass(10);
        return x.cutOff(frame);
    }
}
