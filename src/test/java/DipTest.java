/** Promises 8 and 9: dipping, and cutting off. */
public final class DipTest {
    private static final Check check = new Check();

    public static void main(String[] args) {
        promise08GrowthAndWax();
        promise08GrowthAtSixty();
        promise08QuarterGoesBy();
        promise08Refuses();
        promise08WaxMustSuffice();
        promise08MeltsAboveSeventy();
        promise08MeltsWithoutWax();
        promise08CracksBelowTen();
        promise08CrackGoesWithTheCandle();
        promise08WarmthIsAtMostHundred();
        promise08ThicknessIsAtMost400();
        promise09SizeAndStore();
        promise09CrackHalvesTheSize();
        promise09GreatestSize();
        promise09ThrownAway();
        promise09VatHasRoomForAPart();
        promise09Refuses();
        promise09WarmthOfTwenty();
        check.end();
    }

    private static void promise08GrowthAndWax() {
        CandleDip x = Workshop.steady();
        int[] wicks = {20, 7, 3, 13};
        for (int kind = 0; kind <= 3; kind++) {
            Workshop.hung(x, kind, wicks[kind], kind);
        }
        check.due("8: bare wicks of kind 0", 15, () -> x.dip(0));
        check.due("8: wax, 15 * 8 * 20 / 10 less", 19760, () -> x.vat(0));
        check.due("8: bare wicks of kind 1", 15, () -> x.dip(1));
        check.due("8: wax, 15 * 9 * 7 / 10 less", 19666, () -> x.vat(0));
        check.due("8: bare wicks of kind 2", 15, () -> x.dip(2));
        check.due("8: wax, 15 * 10 * 3 / 10 less", 19621, () -> x.vat(0));
        check.due("8: bare wicks of kind 3", 12, () -> x.dip(3));
        check.due("8: wax, 12 * 11 * 13 / 10 less", 19450, () -> x.vat(0));
        check.due("8: kind 2 again", 26, () -> x.dip(2));
        check.due("8: wax, 11 * 10 * 3 / 10 less", 19417, () -> x.vat(0));
        check.due("8: kind 3 again", 20, () -> x.dip(3));
        check.due("8: wax, 8 * 11 * 13 / 10 less", 19303, () -> x.vat(0));
        check.due("8: dips in all", 6, () -> x.count(7));
        check.due("8: dips of frame 3", 2, () -> x.frame(3, 6));
    }

    private static void promise08GrowthAtSixty() {
        CandleDip x = Workshop.heated(1000, 1, 10);
        Workshop.hung(x, 0, 10, 0);
        check.refused("8: wax of 58 is not melted", x, IllegalStateException.class, () -> x.dip(0));
        x.pass(1);
        check.due("8: wax of 60 is melted", 16, () -> x.dip(0));
        check.due("8: warmth is of the heat ahead of the quarter", 30, () -> x.frame(0, 3));
        check.due("8: heat behind the quarter", 62, () -> x.vat(1));
        check.due("8: at 62", 28, () -> x.dip(0));
        check.due("8: warmth, (30 + 62) / 2", 46, () -> x.frame(0, 3));
    }

    private static void promise08QuarterGoesBy() {
        CandleDip x = Workshop.steady();
        Workshop.hung(x, 0, 1, 0);
        check.due("8: the quarter ahead of it", 40, () -> x.count(0));
        x.dip(0);
        check.due("8: the quarter behind it", 41, () -> x.count(0));
        check.due("8: the dipped one does not cool", 37, () -> x.frame(0, 3));
        checkCoolingBesideADip(0, 12);
        checkCoolingBesideADip(5, 12);
        checkCoolingBesideADip(6, 6);
        checkCoolingBesideADip(11, 6);
        checkCoolingBesideADip(-1, 3);
    }

    private static void checkCoolingBesideADip(int place, int loss) {
        CandleDip x = Workshop.steady();
        Workshop.hung(x, 0, 1, 7);
        Workshop.hung(x, 0, 1, 8);
        Workshop.dipOften(x, 0, 3);
        x.layAside(0);
        if (place >= 0) {
            x.hang(0, place);
        }
        check.due("8: warmth ahead of the dip of another one", 64, () -> x.frame(0, 3));
        x.dip(1);
        check.due("8: warmth behind it, at the place " + place, 64 - loss, () -> x.frame(0, 3));
    }

    private static void promise08Refuses() {
        CandleDip x = Workshop.steady();
        check.refused("8: no frame yet", x, IndexOutOfBoundsException.class, () -> x.dip(0));
        x.addFrame(0, 1);
        check.refused("8: it lies aside", x, IllegalStateException.class, () -> x.dip(0));
        for (int frame : new int[] {-1, 1, 12, Integer.MIN_VALUE, Integer.MAX_VALUE}) {
            check.refused("8: dip(" + frame + ")", x, IndexOutOfBoundsException.class, () -> x.dip(frame));
        }
        x.hang(0, 0);
        check.due("8: it hangs", 15, () -> x.dip(0));
        x.layAside(0);
        check.refused("8: it lies aside again", x, IllegalStateException.class, () -> x.dip(0));
    }

    private static void promise08WaxMustSuffice() {
        CandleDip x = Workshop.heated(239, 1, 40);
        Workshop.hung(x, 0, 20, 0);
        check.refused("8: 239 wax for 240", x, IllegalStateException.class, () -> x.dip(0));
        x.melt(1);
        check.due("8: heat behind melt(1)", 73, () -> x.vat(1));
        check.due("8: 240 wax for 240", 15, () -> x.dip(0));
        check.due("8: the vat is empty", 0, () -> x.vat(0));
        check.refused("8: no wax for a second dip", x, IllegalStateException.class, () -> x.dip(0));
    }

    private static void promise08MeltsAboveSeventy() {
        CandleDip x = Workshop.steady();
        Workshop.hung(x, 0, 10, 6);
        Workshop.dipOften(x, 0, 5);
        check.due("8: thickness behind five dips", 59, () -> x.frame(0, 2));
        check.due("8: warmth of 71", 71, () -> x.frame(0, 3));
        int wax = x.vat(0);
        check.due("8: at 71 they melt by (74 - 55) / 5", 56, () -> x.dip(0));
        check.due("8: warm then", 100, () -> x.frame(0, 3));
        check.due("8: no wax is taken up", wax, () -> x.vat(0));
        check.due("8: it was dipped six times", 6, () -> x.frame(0, 6));
        check.due("8: six dips in all", 6, () -> x.count(7));
        x.pass(5);
        check.due("8: warmth of 70", 70, () -> x.frame(0, 3));
        check.due("8: at 70 they grow", 67, () -> x.dip(0));
    }

    private static void promise08MeltsWithoutWax() {
        CandleDip x = Workshop.heated(11, 5, 20);
        Workshop.hung(x, 0, 1, 6);
        check.due("8: at 120", 9, () -> x.dip(0));
        check.due("8: at 120 again", 14, () -> x.dip(0));
        check.due("8: the vat is empty", 0, () -> x.vat(0));
        check.due("8: they melt by (120 - 55) / 5", 1, () -> x.dip(0));
        check.due("8: at least 0", 0, () -> x.dip(0));
        check.due("8: bare wicks that are warm", 0, () -> x.dip(0));
        check.due("8: their warmth", 100, () -> x.frame(0, 3));
        check.due("8: all these dips count", 5, () -> x.frame(0, 6));
        x.pass(5);
        check.refused("8: without wax they can't grow", x, IllegalStateException.class, () -> x.dip(0));
        x.hang(0, 0);
        x.melt(500);
        check.due("8: the heat of the new wax", 20, () -> x.vat(1));
        check.refused("8: wax, but not melted", x, IllegalStateException.class, () -> x.dip(0));
    }

    private static void promise08CracksBelowTen() {
        CandleDip x = Workshop.steady();
        Workshop.hung(x, 0, 1, 6);
        x.dip(0);
        check.due("8: cold bare wicks get no crack", 0, () -> x.frame(0, 4));
        x.layAside(0);
        x.pass(9);
        check.due("8: warmth of 10", 10, () -> x.frame(0, 3));
        x.hang(0, 0);
        x.dip(0);
        check.due("8: no crack at 10", 0, () -> x.frame(0, 4));

        CandleDip y = Workshop.steady();
        Workshop.hung(y, 0, 1, 0);
        Workshop.dipOften(y, 0, 4);
        y.pass(5);
        check.due("8: warmth of 9", 9, () -> y.frame(0, 3));
        check.due("8: still whole", 0, () -> y.frame(0, 4));
        check.due("8: it grows with a crack too", 59, () -> y.dip(0));
        check.due("8: a crack at 9", 1, () -> y.frame(0, 4));
        check.due("8: warmth, (9 + 74) / 2", 41, () -> y.frame(0, 3));
        y.dip(0);
        check.due("8: the crack stays", 1, () -> y.frame(0, 4));
    }

    private static void promise08CrackGoesWithTheCandle() {
        CandleDip x = Workshop.steady();
        Workshop.hung(x, 0, 1, 0);
        x.dip(0);
        x.pass(4);
        x.dip(0);
        check.due("8: a crack", 1, () -> x.frame(0, 4));
        Workshop.dipOften(x, 0, 4);
        check.due("8: thickness ahead of melting", 70, () -> x.frame(0, 2));
        Workshop.dipOften(x, 0, 23);
        check.due("8: nearly melted", 1, () -> x.frame(0, 2));
        check.due("8: the crack is still there", 1, () -> x.frame(0, 4));
        check.due("8: melted", 0, () -> x.dip(0));
        check.due("8: bare wicks have no crack", 0, () -> x.frame(0, 4));
        check.due("8: dips since it has these wicks", 30, () -> x.frame(0, 6));
        x.pass(3);
        check.due("8: they grow as bare wicks again", 15, () -> x.dip(0));
    }

    private static void promise08WarmthIsAtMostHundred() {
        CandleDip x = Workshop.heated(20000, 5, 20);
        Workshop.hung(x, 0, 1, 0);
        Workshop.dipOften(x, 0, 3);
        check.due("8: melted candles have 100, not (90 + 120) / 2", 100, () -> x.frame(0, 3));
        x.pass(3);
        check.due("8: warmth of 64", 64, () -> x.frame(0, 3));
        x.dip(0);
        check.due("8: (64 + 120) / 2", 92, () -> x.frame(0, 3));
    }

    private static void promise08ThicknessIsAtMost400() {
        CandleDip x = Workshop.steady();
        Workshop.hung(x, 3, 10, 6);
        Workshop.grow(x, 0, 49);
        check.due("8: nearly 400", 396, () -> x.frame(0, 2));
        int wax = x.vat(0);
        check.due("8: no more than 400", 400, () -> x.dip(0));
        check.due("8: wax for 4 alone", wax - 44, () -> x.vat(0));
        x.pass(2);
        check.due("8: 400 stays", 400, () -> x.dip(0));
        check.due("8: wax for none", wax - 44, () -> x.vat(0));
        check.due("8: 400 with a crack or without", 0, () -> x.frame(0, 4));
        x.pass(12);
        x.dip(0);
        check.due("8: a cold dip cracks them, though they can't grow", 1, () -> x.frame(0, 4));
        check.due("8: 400 / 80 then", 5, () -> x.frame(0, 7));
    }

    private static void promise09SizeAndStore() {
        CandleDip x = Workshop.steady();
        Workshop.hung(x, 1, 8, 6);
        Workshop.grow(x, 0, 7);
        check.due("9: thickness", 81, () -> x.frame(0, 2));
        x.pass(10);
        long quarter = x.count(0);
        int wax = x.vat(0);
        check.due("9: size 2", 2, () -> x.cutOff(0));
        check.due("9: in the store", 8, () -> x.store(1, 2));
        check.due("9: candles in the store", 8, () -> x.count(3));
        check.due("9: none thrown away", 0, () -> x.count(8));
        check.due("9: no wax comes back", wax, () -> x.vat(0));
        check.due("9: no quarter goes by", (int) quarter, () -> x.count(0));
        int[] renewed = {1, 8, 0, 0, 0, 6, 0, 0};
        for (int what = 0; what <= 7; what++) {
            int asked = what;
            check.due("9: frame(0, " + what + ") with new wicks", renewed[what], () -> x.frame(0, asked));
        }
        Workshop.grow(x, 0, 7);
        x.layAside(0);
        x.pass(20);
        check.due("9: from aside", 2, () -> x.cutOff(0));
        check.due("9: they are added", 16, () -> x.store(1, 2));
        check.due("9: it still lies aside", -1, () -> x.frame(0, 5));
        check.due("9: dips in all stay", 14, () -> x.count(7));
    }

    private static void promise09CrackHalvesTheSize() {
        CandleDip x = Workshop.steady();
        Workshop.hung(x, 0, 5, 6);
        Workshop.grow(x, 0, 13);
        check.due("9: size 3 without a crack", 3, () -> x.frame(0, 7));
        x.pass(10);
        x.dip(0);
        x.pass(10);
        check.due("9: thickness of 158", 158, () -> x.frame(0, 2));
        check.due("9: 158 / 80", 1, () -> x.cutOff(0));
        check.due("9: in the store as size 1", 5, () -> x.store(0, 1));
        check.due("9: the new wicks have no crack", 0, () -> x.frame(0, 4));
    }

    private static void promise09GreatestSize() {
        CandleDip x = Workshop.steady();
        Workshop.hung(x, 0, 1, 6);
        check.due("9: 400 / 40 is 9 at most", 9, () -> Workshop.harvest(x, 0, 36));
        check.due("9: in the store as size 9", 1, () -> x.store(0, 9));
    }

    private static void promise09ThrownAway() {
        CandleDip x = Workshop.heated(15000, 1, 40);
        Workshop.hung(x, 3, 13, 6);
        Workshop.grow(x, 0, 4);
        x.pass(10);
        check.due("9: thickness of 36", 36, () -> x.frame(0, 2));
        int wax = x.vat(0);
        int heat = x.vat(1);
        check.due("9: size 0", 0, () -> x.cutOff(0));
        check.due("9: 36 * 11 * 13 / 10 come back", wax + 514, () -> x.vat(0));
        check.due("9: the heat stays", heat, () -> x.vat(1));
        check.due("9: thrown away", 13, () -> x.count(8));
        check.due("9: none in the store", 0, () -> x.count(3));
        check.due("9: bare wicks", 0, () -> x.frame(0, 2));
        Workshop.harvest(x, 0, 1);
        check.due("9: thrown away in all", 26, () -> x.count(8));
    }

    private static void promise09VatHasRoomForAPart() {
        CandleDip x = Workshop.steady();
        Workshop.hung(x, 0, 20, 6);
        x.dip(0);
        x.pass(10);
        x.melt(200);
        check.due("9: wax", 19960, () -> x.vat(0));
        check.due("9: size 0", 0, () -> x.cutOff(0));
        check.due("9: a full vat takes no more", 20000, () -> x.vat(0));
        check.due("9: thrown away all the same", 20, () -> x.count(8));
    }

    private static void promise09Refuses() {
        CandleDip x = Workshop.steady();
        check.refused("9: no frame yet", x, IndexOutOfBoundsException.class, () -> x.cutOff(0));
        x.addFrame(0, 4);
        check.refused("9: bare wicks", x, IllegalStateException.class, () -> x.cutOff(0));
        for (int frame : new int[] {-1, 1, 12, Integer.MIN_VALUE, Integer.MAX_VALUE}) {
            check.refused("9: cutOff(" + frame + ")", x, IndexOutOfBoundsException.class, () -> x.cutOff(frame));
        }
        x.hang(0, 6);
        x.dip(0);
        check.refused("9: too warm", x, IllegalStateException.class, () -> x.cutOff(0));
        x.pass(10);
        check.due("9: cold", 0, () -> x.cutOff(0));
        check.refused("9: bare wicks again", x, IllegalStateException.class, () -> x.cutOff(0));
    }

    private static void promise09WarmthOfTwenty() {
        CandleDip x = Workshop.steady();
        Workshop.hung(x, 0, 1, 0);
        Workshop.dipOften(x, 0, 4);
        x.pass(4);
        check.due("9: warmth of 21", 21, () -> x.frame(0, 3));
        check.refused("9: too warm at 21", x, IllegalStateException.class, () -> x.cutOff(0));

        CandleDip y = Workshop.steady();
        Workshop.hung(y, 0, 1, 0);
        Workshop.dipOften(y, 0, 5);
        y.pass(4);
        y.layAside(0);
        y.pass(1);
        check.due("9: warmth of 20", 20, () -> y.frame(0, 3));
        check.due("9: cut off at 20", 1, () -> y.cutOff(0));
        check.due("9: the new wicks are cold", 0, () -> y.frame(0, 3));
    }
}
