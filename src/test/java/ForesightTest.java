/** Promises 18 to 24: what would be. */
public final class ForesightTest {
    private static final Check check = new Check();

    public static void main(String[] args) {
        promise18Would();
        promise18AsFarAsItCouldBe();
        promise18Refuses();
        promise19DipsTo();
        promise19DipsThatCouldNotBe();
        promise19AtMostSixtyDips();
        promise19Refuses();
        promise20BestRest();
        promise20LeastOfSeveral();
        promise20FewestQuarters();
        promise20Refuses();
        promise21Advise();
        promise21OnlyThoseThatCanBeDipped();
        promise22Possible();
        promise22NotByTheRuleOfFilling();
        promise22OpenOrdersAlone();
        promise22AllOrders();
        promise23Mean();
        promise24Digest();
        check.end();
    }

    private static void promise18Would() {
        CandleDip x = Workshop.steady();
        Workshop.hung(x, 0, 10, 0);
        Workshop.hung(x, 3, 10, 6);
        long before = x.digest();
        int[] due = {15, 26, 37, 48, 59, 56, 53};
        for (int dips = 1; dips <= due.length; dips++) {
            int asked = dips;
            check.due("18: would(0, " + dips + ")", due[dips - 1], () -> x.would(0, asked));
        }
        check.due("18: would(1, 2) of kind 3", 20, () -> x.would(1, 2));
        check.due("18: would(0, 40), melted", 0, () -> x.would(0, 40));
        check.due("18: nothing is changed", before, x::digest);
        x.dip(0);
        check.due("18: behind a dip", 26, () -> x.would(0, 1));

        CandleDip cooling = Workshop.heated(5000, 5, 20);
        Workshop.hung(cooling, 0, 1, 0);
        cooling.setFire(0);
        check.due("18: 9 at 120, 6 at 110", 15, () -> cooling.would(0, 2));
    }

    private static void promise18AsFarAsItCouldBe() {
        CandleDip cold = new CandleDip();
        cold.melt(5000);
        Workshop.hung(cold, 0, 1, 0);
        check.due("18: wax that is not melted", 0, () -> cold.would(0, 5));

        CandleDip little = Workshop.heated(20, 1, 40);
        Workshop.hung(little, 0, 1, 0);
        check.due("18: wax for two dips, 12 and 8", 26, () -> little.would(0, 3));
        check.due("18: wax for two dips of 40", 26, () -> little.would(0, 40));
        check.due("18: the wax is still there", 20, () -> little.vat(0));

        CandleDip wide = Workshop.heated(207, 1, 40);
        Workshop.hung(wide, 0, 10, 0);
        check.due("18: 10 wicks want 120 and 88", 15, () -> wide.would(0, 2));

        CandleDip fading = Workshop.heated(5000, 1, 40);
        fading.setFire(0);
        Workshop.hung(fading, 0, 1, 0);
        check.due("18: dips at 74, 69, 65 and 61", 15 + 11 + 12 + 12, () -> fading.would(0, 4));
        check.due("18: none at 57", 50, () -> fading.would(0, 5));
    }

    private static void promise18Refuses() {
        CandleDip x = Workshop.steady();
        check.noIndex("18: no frame yet", () -> x.would(0, 1));
        x.addFrame(0, 1);
        check.noState("18: it lies aside", () -> x.would(0, 1));
        check.noArgument("18: aside, and dips wrong", () -> x.would(0, 41));
        x.hang(0, 0);
        for (int bad : new int[] {-1, 41, Integer.MIN_VALUE, Integer.MAX_VALUE}) {
            check.refused("18: would(0, " + bad + ")", x, IllegalArgumentException.class, () -> x.would(0, bad));
            check.refused("18: would(" + bad + ", 1)", x, IndexOutOfBoundsException.class, () -> x.would(bad, 1));
            check.refused("18: would(" + bad + ", 0)", x, IndexOutOfBoundsException.class, () -> x.would(bad, 0));
        }
        check.noArgument("18: would(0, 0)", () -> x.would(0, 0));
        check.noIndex("18: would(1, 1)", () -> x.would(1, 1));
    }

    private static void promise19DipsTo() {
        CandleDip x = Workshop.steady();
        Workshop.hung(x, 0, 1, 6);
        long before = x.digest();
        int[] due = {4, 7, 11, 15, 18, 22, 26, 29, 33};
        for (int size = 1; size <= 9; size++) {
            int asked = size;
            check.due("19: dipsTo(0, 2, " + size + ")", due[size - 1], () -> x.dipsTo(0, 2, asked));
        }
        check.due("19: without a rest, size 1", 4, () -> x.dipsTo(0, 0, 1));
        check.due("19: without a rest they melt ahead of size 2", -1, () -> x.dipsTo(0, 0, 2));
        check.due("19: with cracks, size 1", 7, () -> x.dipsTo(0, 20, 1));
        check.due("19: nothing is changed", before, x::digest);
        Workshop.grow(x, 0, 4);
        check.due("19: it has size 1", 0, () -> x.dipsTo(0, 20, 1));
        check.due("19: three more for size 2", 3, () -> x.dipsTo(0, 2, 2));
        x.hang(0, 0);
        check.due("19: rack 0 cools more", 3, () -> x.dipsTo(0, 2, 2));
        check.due("19: with a crack 160 are wanted", 11, () -> x.dipsTo(0, 4, 2));
    }

    private static void promise19DipsThatCouldNotBe() {
        CandleDip cold = new CandleDip();
        cold.melt(5000);
        cold.setFire(5);
        Workshop.hung(cold, 0, 1, 6);
        check.due("19: not melted now", -1, () -> cold.dipsTo(0, 10, 1));

        CandleDip little = Workshop.heated(12 + 8 + 8 + 8, 1, 40);
        Workshop.hung(little, 0, 1, 6);
        check.due("19: just wax enough", 4, () -> little.dipsTo(0, 2, 1));
        check.due("19: no wax for a fifth dip", -1, () -> little.dipsTo(0, 2, 2));

        CandleDip fading = Workshop.heated(5000, 1, 40);
        fading.setFire(0);
        Workshop.hung(fading, 0, 1, 6);
        check.due("19: four dips ahead of 57", 4, () -> fading.dipsTo(0, 0, 1));
        check.due("19: the fire goes down in the rests too", -1, () -> fading.dipsTo(0, 1, 1));
    }

    private static void promise19AtMostSixtyDips() {
        CandleDip x = Workshop.heated(20000, 5, 20);
        Workshop.hung(x, 3, 1, 11);
        check.due("19: 6 and 2 each, 58 dips for 120", 58, () -> x.dipsTo(0, 8, 3));
        check.due("19: 78 dips for 160", -1, () -> x.dipsTo(0, 8, 4));
        for (int i = 0; i < 17; i++) {
            x.dip(0);
            x.pass(8);
        }
        check.due("19: 61 more dips for 160", -1, () -> x.dipsTo(0, 8, 4));
        x.dip(0);
        x.pass(8);
        check.due("19: 60 more dips for 160", 60, () -> x.dipsTo(0, 8, 4));
    }

    private static void promise19Refuses() {
        CandleDip x = Workshop.steady();
        check.noIndex("19: no frame yet", () -> x.dipsTo(0, 0, 1));
        x.addFrame(0, 1);
        check.noState("19: it lies aside", () -> x.dipsTo(0, 0, 1));
        check.noArgument("19: aside, and rest wrong", () -> x.dipsTo(0, 21, 1));
        check.noArgument("19: aside, and size wrong", () -> x.dipsTo(0, 0, 10));
        x.hang(0, 0);
        for (int bad : new int[] {-1, 21, Integer.MIN_VALUE, Integer.MAX_VALUE}) {
            check.refused("19: dipsTo(0, " + bad + ", 1)", x, IllegalArgumentException.class, () -> x.dipsTo(0, bad, 1));
            check.refused("19: dipsTo(0, 0, " + bad + ")", x, IllegalArgumentException.class, () -> x.dipsTo(0, 0, bad));
            check.refused("19: dipsTo(" + bad + ", 0, 0)", x, IndexOutOfBoundsException.class, () -> x.dipsTo(bad, 0, 0));
        }
        check.noArgument("19: dipsTo(0, 0, 0)", () -> x.dipsTo(0, 0, 0));
        check.noArgument("19: dipsTo(0, 0, 10)", () -> x.dipsTo(0, 0, 10));
        check.noIndex("19: dipsTo(1, 0, 1)", () -> x.dipsTo(1, 0, 1));
    }

    private static void promise20BestRest() {
        CandleDip x = Workshop.steady();
        Workshop.hung(x, 0, 1, 6);
        long before = x.digest();
        check.due("20: size 1 without a rest", 0, () -> x.bestRest(0, 1));
        check.due("20: size 2 with a rest of 1", 1, () -> x.bestRest(0, 2));
        check.due("20: nothing is changed", before, x::digest);
        Workshop.grow(x, 0, 7);
        check.due("20: it has size 2", 0, () -> x.bestRest(0, 2));

        CandleDip cold = new CandleDip();
        Workshop.hung(cold, 0, 1, 6);
        check.due("20: with none", -1, () -> cold.bestRest(0, 1));
        CandleDip hot = Workshop.heated(20000, 5, 20);
        Workshop.hung(hot, 0, 1, 6);
        check.due("20: size 9 wants more than 60 dips", -1, () -> hot.bestRest(0, 9));
    }

    private static void promise20LeastOfSeveral() {
        CandleDip x = Workshop.steady();
        Workshop.hung(x, 0, 1, 6);
        x.dip(0);
        x.dip(0);
        x.dip(0);
        check.due("20: one dip is the same with each rest", 1, () -> x.dipsTo(0, 20, 1));
        check.due("20: so the least rest", 0, () -> x.bestRest(0, 1));
    }

    private static void promise20FewestQuarters() {
        CandleDip x = Workshop.steady();
        Workshop.hung(x, 0, 1, 6);
        x.setFire(5);
        x.pass(1);
        for (int i = 0; i < 7; i++) {
            x.dip(0);
            x.pass(8);
        }
        x.dip(0);
        x.setFire(1);
        check.due("20: with a rest of 4 they melt", -1, () -> x.dipsTo(0, 4, 1));
        check.due("20: 7 dips and 6 rests of 5 are 37 quarters", 7, () -> x.dipsTo(0, 5, 1));
        check.due("20: 6 dips and 5 rests of 6 are 36 quarters", 6, () -> x.dipsTo(0, 6, 1));
        check.due("20: 6 dips and 5 rests of 7 are 41 quarters", 6, () -> x.dipsTo(0, 7, 1));
        check.due("20: the fewest quarters", 6, () -> x.bestRest(0, 1));
    }

    private static void promise20Refuses() {
        CandleDip x = Workshop.steady();
        check.noIndex("20: no frame yet", () -> x.bestRest(0, 1));
        x.addFrame(0, 1);
        check.noState("20: it lies aside", () -> x.bestRest(0, 1));
        check.noArgument("20: aside, and size wrong", () -> x.bestRest(0, 0));
        x.hang(0, 0);
        for (int bad : new int[] {-1, 10, Integer.MIN_VALUE, Integer.MAX_VALUE}) {
            check.refused("20: bestRest(0, " + bad + ")", x, IllegalArgumentException.class, () -> x.bestRest(0, bad));
            check.refused("20: bestRest(" + bad + ", 0)", x, IndexOutOfBoundsException.class, () -> x.bestRest(bad, 0));
        }
        check.noArgument("20: bestRest(0, 0)", () -> x.bestRest(0, 0));
        check.noIndex("20: bestRest(1, 1)", () -> x.bestRest(1, 1));
    }

    private static void promise21Advise() {
        CandleDip x = Workshop.steady();
        check.due("21: no frame", -1, x::advise);
        x.addFrame(0, 20);
        check.due("21: it lies aside", -1, x::advise);
        Workshop.hung(x, 3, 1, 0);
        check.due("21: the only one that hangs", 1, x::advise);
        Workshop.hung(x, 1, 1, 1);
        Workshop.hung(x, 2, 20, 2);
        long before = x.digest();
        check.due("21: of 12, 15 and 15 the first 15", 2, x::advise);
        check.due("21: nothing is changed", before, x::digest);
        x.dip(2);
        check.due("21: of 12, 11 and 15", 3, x::advise);
        x.dip(3);
        check.due("21: of 12, 11 and 11", 1, x::advise);
        x.dip(1);
        check.due("21: of 8, 11 and 11", 2, x::advise);
    }

    private static void promise21OnlyThoseThatCanBeDipped() {
        CandleDip x = Workshop.heated(20, 1, 40);
        Workshop.hung(x, 0, 20, 0);
        check.due("21: not wax enough", -1, x::advise);
        Workshop.hung(x, 0, 1, 1);
        check.due("21: wax enough for the other one", 1, x::advise);
        x.setFire(0);
        x.pass(4);
        check.due("21: not melted", -1, x::advise);

        CandleDip melting = Workshop.steady();
        Workshop.hung(melting, 0, 1, 0);
        Workshop.dipOften(melting, 0, 5);
        check.due("21: it would melt", -1, melting::advise);
        melting.pass(1);
        check.due("21: it would grow", 0, melting::advise);

        CandleDip full = Workshop.steady();
        Workshop.hung(full, 0, 1, 6);
        Workshop.grow(full, 0, 36);
        check.due("21: thickness of 400", 400, () -> full.frame(0, 2));
        check.due("21: it can be dipped, but not be thicker", -1, full::advise);

        CandleDip nearly = Workshop.heated(20000, 5, 20);
        Workshop.hung(nearly, 0, 1, 6);
        for (int i = 0; i < 79; i++) {
            nearly.dip(0);
            nearly.pass(8);
        }
        check.due("21: thickness of 399", 399, () -> nearly.frame(0, 2));
        check.due("21: thicker by 1", 0, nearly::advise);
    }

    private static void promise22Possible() {
        CandleDip x = Workshop.steady();
        check.due("22: no order", 0, x::possible);
        x.addOrder(0, 1, 3, 900);
        check.due("22: no candle", 0, x::possible);
        Workshop.hung(x, 0, 10, 6);
        Workshop.harvest(x, 0, 4);
        Workshop.hung(x, 1, 4, 7);
        Workshop.harvest(x, 1, 7);
        check.due("22: one", 1, x::possible);
        x.addOrder(0, 1, 8, 900);
        check.due("22: one of two", 1, x::possible);
        x.addOrder(0, 1, 7, 900);
        check.due("22: 3 and 7 of 10", 2, x::possible);
        x.addOrder(0, 2, 1, 900);
        check.due("22: none is of size 2", 2, x::possible);
        x.addOrder(1, 2, 4, 900);
        check.due("22: another kind", 3, x::possible);
        x.addOrder(1, 1, 1, 900);
        check.due("22: 4 of size 2 or 1 of size 1", 3, x::possible);
        x.addOrder(1, 1, 3, 900);
        check.due("22: 1 and 3 are more than 4", 4, x::possible);
        x.addOrder(2, 1, 1, 900);
        long before = x.digest();
        check.due("22: a kind without candles", 4, x::possible);
        check.due("22: nothing is changed", before, x::digest);
    }

    /** A great order that comes first is left out for two small ones, and great candles serve small orders. */
    private static void promise22NotByTheRuleOfFilling() {
        CandleDip x = Workshop.steady();
        Workshop.hung(x, 0, 6, 6);
        Workshop.harvest(x, 0, 4);
        Workshop.harvest(x, 0, 11);
        x.addOrder(0, 3, 6, 900);
        x.addOrder(0, 1, 5, 900);
        check.due("22: each from its own size", 2, x::possible);
        x.addOrder(0, 2, 3, 900);
        check.due("22: 6 of size 3 for two", 2, x::possible);
        x.addOrder(0, 2, 3, 900);
        check.due("22: 3, 3 and 5 without the 6", 3, x::possible);
        x.addOrder(0, 1, 1, 900);
        check.due("22: and 1", 4, x::possible);
        x.addOrder(0, 1, 1, 900);
        check.due("22: one candle is missing for all", 4, x::possible);
    }

    private static void promise22OpenOrdersAlone() {
        CandleDip x = Workshop.steady();
        Workshop.hung(x, 0, 10, 6);
        Workshop.harvest(x, 0, 4);
        int today = x.count(0) / 40;
        x.addOrder(0, 1, 1, today);
        x.addOrder(0, 1, 2, 900);
        x.addOrder(0, 1, 3, 900);
        check.due("22: three", 3, x::possible);
        x.fill(1);
        check.due("22: without a filled one", 2, x::possible);
        x.pass(40);
        check.due("22: without a late one", 1, x::possible);
        check.due("22: which could be filled", 1, () -> x.order(0, 5));
    }

    private static void promise22AllOrders() {
        CandleDip x = Workshop.steady();
        Workshop.hung(x, 0, 20, 6);
        Workshop.harvest(x, 0, 4);
        for (int i = 1; i <= 20; i++) {
            int orders = i;
            x.addOrder(0, 1, 1, 900);
            check.due("22: " + orders + " orders of 20 candles", orders, x::possible);
        }
    }

    private static void promise23Mean() {
        CandleDip single = Workshop.steady();
        Workshop.hung(single, 0, 1, 0);
        single.dip(0);
        check.due("23: one wick", 15.0, single::mean);

        CandleDip x = Workshop.steady();
        check.due("23: no frame", 0.0, x::mean);
        x.addFrame(0, 5);
        check.due("23: bare wicks", 0.0, x::mean);
        Workshop.hung(x, 1, 10, 0);
        x.dip(1);
        check.due("23: by wicks, bare ones too", 10.0, x::mean);
        Workshop.hung(x, 3, 2, 1);
        x.dip(2);
        check.due("23: 150 and 24 by 17", 174.0 / 17.0, x::mean);
        check.due("23: nothing is changed", 2, () -> x.count(7));
    }

    private static void promise24Digest() {
        CandleDip x = new CandleDip();
        check.due("24: of a new object", new Model().digest(), x::digest);
        CandleDip y = Workshop.steady();
        Workshop.hung(y, 2, 9, 6);
        y.addFrame(3, 4);
        Workshop.harvest(y, 0, 7);
        y.addOrder(2, 1, 4, 900);
        y.addOrder(2, 2, 5, 901);
        y.addOrder(1, 9, 60, 1000);
        y.fill(0);
        y.dip(0);
        long d = 613;
        for (int what = 0; what <= 8; what++) {
            d = d * 31 + y.count(what);
        }
        for (int what = 0; what <= 3; what++) {
            d = d * 31 + y.vat(what);
        }
        for (int i = 0; i < 16; i++) {
            d = d * 31 + y.frame(i / 8, i % 8);
        }
        for (int i = 0; i < 36; i++) {
            d = d * 31 + y.store(i / 9, i % 9 + 1);
        }
        for (int i = 0; i < 18; i++) {
            d = d * 31 + y.order(i / 6, i % 6);
        }
        long due = d;
        check.due("24: what is told, in its order", due, y::digest);
        check.due("24: nothing is changed", due, y::digest);
    }
}
