/** Promises 8 and 9: dipping, and cutting off. */
public final class DipTest {
    private static final Check check = new Check();

    public static void main(String[] args) {
        promise08GrowthAndWax();
        promise08GrowthAtSixty();
        promise08CrackGoesWithTheCandle();
        promise09SizeAndStore();
        promise09CrackHalvesTheSize();
        promise09ThrownAway();
        check.end();
    }

    private static void promise08GrowthAndWax() {
        CandleDip x = Workshop.steady();
        int[] wicks = {20, 7, 3, 13};
        for (int kind = 0; kind <= 3; kind++) {
            Workshop.hung(x, kind, wicks[kind], kind);
        }
        check.due("8: bare wicks of kind 0", 15, () -> x.dip(0));
        check.due("8: wax, 15 * 8 * 20 / 10 less", 19760, () -> x.vat(0));
        check.due("8: bare wicks of kind 1", 15, () -> x.dip(1));
        check.due("8: wax, 15 * 9 * 7 / 10 less", 19666, () -> x.vat(0));
        check.due("8: bare wicks of kind 2", 15, () -> x.dip(2));
        check.due("8: wax, 15 * 10 * 3 / 10 less", 19621, () -> x.vat(0));
        check.due("8: bare wicks of kind 3", 12, () -> x.dip(3));
        check.due("8: wax, 12 * 11 * 13 / 10 less", 19450, () -> x.vat(0));
        check.due("8: kind 2 again", 26, () -> x.dip(2));
        check.due("8: wax, 11 * 10 * 3 / 10 less", 19417, () -> x.vat(0));
        check.due("8: kind 3 again", 20, () -> x.dip(3));
        check.due("8: wax, 8 * 11 * 13 / 10 less", 19303, () -> x.vat(0));
        check.due("8: dips in all", 6, () -> x.count(7));
        check.due("8: dips of frame 3", 2, () -> x.frame(3, 6));
    }

    private static void promise08GrowthAtSixty() {
        CandleDip x = Workshop.heated(1000, 1, 10);
        Workshop.hung(x, 0, 10, 0);
        x.pass(1);
        check.due("8: wax of 60 is melted", 16, () -> x.dip(0));
        check.due("8: warmth is of the heat ahead of the quarter", 30, () -> x.frame(0, 3));
        check.due("8: heat behind the quarter", 62, () -> x.vat(1));
        check.due("8: at 62", 28, () -> x.dip(0));
        check.due("8: warmth, (30 + 62) / 2", 46, () -> x.frame(0, 3));
    }

    private static void promise08CrackGoesWithTheCandle() {
        CandleDip x = Workshop.steady();
        Workshop.hung(x, 0, 1, 0);
        x.dip(0);
        x.pass(4);
        x.dip(0);
        check.due("8: a crack", 1, () -> x.frame(0, 4));
        Workshop.dipOften(x, 0, 4);
        check.due("8: thickness ahead of melting", 70, () -> x.frame(0, 2));
        Workshop.dipOften(x, 0, 23);
        check.due("8: nearly melted", 1, () -> x.frame(0, 2));
        check.due("8: the crack is still there", 1, () -> x.frame(0, 4));
        check.due("8: melted", 0, () -> x.dip(0));
        check.due("8: bare wicks have no crack", 0, () -> x.frame(0, 4));
        check.due("8: dips since it has these wicks", 30, () -> x.frame(0, 6));
        x.pass(3);
        check.due("8: they grow as bare wicks again", 15, () -> x.dip(0));
    }

    private static void promise09SizeAndStore() {
        CandleDip x = Workshop.steady();
        Workshop.hung(x, 1, 8, 6);
        Workshop.grow(x, 0, 7);
        check.due("9: thickness", 81, () -> x.frame(0, 2));
        x.pass(10);
        long quarter = x.count(0);
        int wax = x.vat(0);
        check.due("9: size 2", 2, () -> x.cutOff(0));
        check.due("9: in the store", 8, () -> x.store(1, 2));
        check.due("9: candles in the store", 8, () -> x.count(3));
        check.due("9: none thrown away", 0, () -> x.count(8));
        check.due("9: no wax comes back", wax, () -> x.vat(0));
        check.due("9: no quarter goes by", (int) quarter, () -> x.count(0));
        check.frameDue("9: with new wicks", x, 0, 1, 8, 0, 0, 0, 6, 0, 0);
        Workshop.grow(x, 0, 7);
        x.layAside(0);
        x.pass(20);
        check.due("9: from aside", 2, () -> x.cutOff(0));
        check.due("9: they are added", 16, () -> x.store(1, 2));
        check.due("9: it still lies aside", -1, () -> x.frame(0, 5));
        check.due("9: dips in all stay", 14, () -> x.count(7));
    }

    private static void promise09CrackHalvesTheSize() {
        CandleDip x = Workshop.steady();
        Workshop.hung(x, 0, 5, 6);
        Workshop.grow(x, 0, 13);
        check.due("9: size 3 without a crack", 3, () -> x.frame(0, 7));
        x.pass(10);
        x.dip(0);
        x.pass(10);
        check.due("9: thickness of 158", 158, () -> x.frame(0, 2));
        check.due("9: 158 / 80", 1, () -> x.cutOff(0));
        check.due("9: in the store as size 1", 5, () -> x.store(0, 1));
        check.due("9: the new wicks have no crack", 0, () -> x.frame(0, 4));
    }

    private static void promise09ThrownAway() {
        CandleDip x = Workshop.heated(15000, 1, 40);
        Workshop.hung(x, 3, 13, 6);
        Workshop.grow(x, 0, 4);
        x.pass(10);
        check.due("9: thickness of 36", 36, () -> x.frame(0, 2));
        int wax = x.vat(0);
        int heat = x.vat(1);
        check.due("9: size 0", 0, () -> x.cutOff(0));
        check.due("9: 36 * 11 * 13 / 10 come back", wax + 514, () -> x.vat(0));
        check.due("9: the heat stays", heat, () -> x.vat(1));
        check.due("9: thrown away", 13, () -> x.count(8));
        check.due("9: none in the store", 0, () -> x.count(3));
        check.due("9: bare wicks", 0, () -> x.frame(0, 2));
        Workshop.harvest(x, 0, 1);
        check.due("9: thrown away in all", 26, () -> x.count(8));
    }
}
