/** Promises 18 to 24: what would be. */
public final class ForesightTest {
    private static final Check check = new Check();

    public static void main(String[] args) {
        promise18Would();
        promise19DipsTo();
        promise20BestRest();
        promise20FewestQuarters();
        promise21Advise();
        promise22Possible();
        promise22NotByTheRuleOfFilling();
        promise22OpenOrdersAlone();
        promise23Mean();
        promise24Digest();
        check.end();
    }

    private static void promise18Would() {
        CandleDip x = Workshop.steady();
        Workshop.hung(x, 0, 10, 0);
        Workshop.hung(x, 3, 10, 6);
        long before = x.digest();
        int[] due = {15, 26, 37, 48, 59, 56, 53};
        for (int dips = 1; dips <= due.length; dips++) {
            int asked = dips;
            check.due("18: would(0, " + dips + ")", due[dips - 1], () -> x.would(0, asked));
        }
        check.due("18: would(1, 2) of kind 3", 20, () -> x.would(1, 2));
        check.due("18: would(0, 40), melted", 0, () -> x.would(0, 40));
        check.due("18: nothing is changed", before, x::digest);
        x.dip(0);
        check.due("18: behind a dip", 26, () -> x.would(0, 1));

        CandleDip cooling = Workshop.heated(5000, 5, 20);
        Workshop.hung(cooling, 0, 1, 0);
        cooling.setFire(0);
        check.due("18: 9 at 120, 6 at 110", 15, () -> cooling.would(0, 2));
    }

    private static void promise19DipsTo() {
        CandleDip x = Workshop.steady();
        Workshop.hung(x, 0, 1, 6);
        long before = x.digest();
        int[] due = {4, 7, 11, 15, 18, 22, 26, 29, 33};
        for (int size = 1; size <= 9; size++) {
            int asked = size;
            check.due("19: dipsTo(0, 2, " + size + ")", due[size - 1], () -> x.dipsTo(0, 2, asked));
        }
        check.due("19: without a rest, size 1", 4, () -> x.dipsTo(0, 0, 1));
        check.due("19: without a rest they melt ahead of size 2", -1, () -> x.dipsTo(0, 0, 2));
        check.due("19: with cracks, size 1", 7, () -> x.dipsTo(0, 20, 1));
        check.due("19: nothing is changed", before, x::digest);
        Workshop.grow(x, 0, 4);
        check.due("19: it has size 1", 0, () -> x.dipsTo(0, 20, 1));
        check.due("19: three more for size 2", 3, () -> x.dipsTo(0, 2, 2));
        x.hang(0, 0);
        check.due("19: rack 0 cools more", 3, () -> x.dipsTo(0, 2, 2));
        check.due("19: with a crack 160 are wanted", 11, () -> x.dipsTo(0, 4, 2));
    }

    private static void promise20BestRest() {
        CandleDip x = Workshop.steady();
        Workshop.hung(x, 0, 1, 6);
        long before = x.digest();
        check.due("20: size 1 without a rest", 0, () -> x.bestRest(0, 1));
        check.due("20: size 2 with a rest of 1", 1, () -> x.bestRest(0, 2));
        check.due("20: nothing is changed", before, x::digest);
        Workshop.grow(x, 0, 7);
        check.due("20: it has size 2", 0, () -> x.bestRest(0, 2));

        CandleDip cold = new CandleDip();
        Workshop.hung(cold, 0, 1, 6);
        check.due("20: with none", -1, () -> cold.bestRest(0, 1));
        CandleDip hot = Workshop.heated(20000, 5, 20);
        Workshop.hung(hot, 0, 1, 6);
        check.due("20: size 9 wants more than 60 dips", -1, () -> hot.bestRest(0, 9));
    }

    private static void promise20FewestQuarters() {
        CandleDip x = Workshop.steady();
        Workshop.hung(x, 0, 1, 6);
        x.setFire(5);
        x.pass(1);
        for (int i = 0; i < 7; i++) {
            x.dip(0);
            x.pass(8);
        }
        x.dip(0);
        x.setFire(1);
        check.due("20: with a rest of 4 they melt", -1, () -> x.dipsTo(0, 4, 1));
        check.due("20: 7 dips and 6 rests of 5 are 37 quarters", 7, () -> x.dipsTo(0, 5, 1));
        check.due("20: 6 dips and 5 rests of 6 are 36 quarters", 6, () -> x.dipsTo(0, 6, 1));
        check.due("20: 6 dips and 5 rests of 7 are 41 quarters", 6, () -> x.dipsTo(0, 7, 1));
        check.due("20: the fewest quarters", 6, () -> x.bestRest(0, 1));
    }

    private static void promise21Advise() {
        CandleDip x = Workshop.steady();
        check.due("21: no frame", -1, x::advise);
        x.addFrame(0, 20);
        check.due("21: it lies aside", -1, x::advise);
        Workshop.hung(x, 3, 1, 0);
        check.due("21: the only one that hangs", 1, x::advise);
        Workshop.hung(x, 1, 1, 1);
        Workshop.hung(x, 2, 20, 2);
        long before = x.digest();
        check.due("21: of 12, 15 and 15 the first 15", 2, x::advise);
        check.due("21: nothing is changed", before, x::digest);
        x.dip(2);
        check.due("21: of 12, 11 and 15", 3, x::advise);
        x.dip(3);
        check.due("21: of 12, 11 and 11", 1, x::advise);
        x.dip(1);
        check.due("21: of 8, 11 and 11", 2, x::advise);
    }

    private static void promise22Possible() {
        CandleDip x = Workshop.steady();
        check.due("22: no order", 0, x::possible);
        x.addOrder(0, 1, 3, 900);
        check.due("22: no candle", 0, x::possible);
        Workshop.hung(x, 0, 10, 6);
        Workshop.harvest(x, 0, 4);
        Workshop.hung(x, 1, 4, 7);
        Workshop.harvest(x, 1, 7);
        check.due("22: one", 1, x::possible);
        x.addOrder(0, 1, 8, 900);
        check.due("22: one of two", 1, x::possible);
        x.addOrder(0, 1, 7, 900);
        check.due("22: 3 and 7 of 10", 2, x::possible);
        x.addOrder(0, 2, 1, 900);
        check.due("22: none is of size 2", 2, x::possible);
        x.addOrder(1, 2, 4, 900);
        check.due("22: another kind", 3, x::possible);
        x.addOrder(1, 1, 1, 900);
        check.due("22: 4 of size 2 or 1 of size 1", 3, x::possible);
        x.addOrder(1, 1, 3, 900);
        check.due("22: 1 and 3 are more than 4", 4, x::possible);
        x.addOrder(2, 1, 1, 900);
        long before = x.digest();
        check.due("22: a kind without candles", 4, x::possible);
        check.due("22: nothing is changed", before, x::digest);
    }

    /** A great order that comes first is left out for two small ones, and great candles serve small orders. */
    private static void promise22NotByTheRuleOfFilling() {
        CandleDip x = Workshop.steady();
        Workshop.hung(x, 0, 6, 6);
        Workshop.harvest(x, 0, 4);
        Workshop.harvest(x, 0, 11);
        x.addOrder(0, 3, 6, 900);
        x.addOrder(0, 1, 5, 900);
        check.due("22: each from its own size", 2, x::possible);
        x.addOrder(0, 2, 3, 900);
        check.due("22: 6 of size 3 for two", 2, x::possible);
        x.addOrder(0, 2, 3, 900);
        check.due("22: 3, 3 and 5 without the 6", 3, x::possible);
        x.addOrder(0, 1, 1, 900);
        check.due("22: and 1", 4, x::possible);
        x.addOrder(0, 1, 1, 900);
        check.due("22: one candle is missing for all", 4, x::possible);
    }

    private static void promise22OpenOrdersAlone() {
        CandleDip x = Workshop.steady();
        Workshop.hung(x, 0, 10, 6);
        Workshop.harvest(x, 0, 4);
        int today = x.count(0) / 40;
        x.addOrder(0, 1, 1, today);
        x.addOrder(0, 1, 2, 900);
        x.addOrder(0, 1, 3, 900);
        check.due("22: three", 3, x::possible);
        x.fill(1);
        check.due("22: without a filled one", 2, x::possible);
        x.pass(40);
        check.due("22: without a late one", 1, x::possible);
        check.due("22: which could be filled", 1, () -> x.order(0, 5));
    }

    private static void promise23Mean() {
        CandleDip single = Workshop.steady();
        Workshop.hung(single, 0, 1, 0);
        single.dip(0);
        check.due("23: one wick", 15.0, single::mean);

        CandleDip x = Workshop.steady();
        check.due("23: no frame", 0.0, x::mean);
        x.addFrame(0, 5);
        check.due("23: bare wicks", 0.0, x::mean);
        Workshop.hung(x, 1, 10, 0);
        x.dip(1);
        check.due("23: by wicks, bare ones too", 10.0, x::mean);
        Workshop.hung(x, 3, 2, 1);
        x.dip(2);
        check.due("23: 150 and 24 by 17", 174.0 / 17.0, x::mean);
        check.due("23: nothing is changed", 2, () -> x.count(7));
    }

    private static void promise24Digest() {
        CandleDip x = new CandleDip();
        check.due("24: of a new object", new Model().digest(), x::digest);
        CandleDip y = Workshop.steady();
        Workshop.hung(y, 2, 9, 6);
        y.addFrame(3, 4);
        Workshop.harvest(y, 0, 7);
        y.addOrder(2, 1, 4, 900);
        y.addOrder(2, 2, 5, 901);
        y.addOrder(1, 9, 60, 1000);
        y.fill(0);
        y.dip(0);
        long d = 613;
        for (int what = 0; what <= 8; what++) {
            d = d * 31 + y.count(what);
        }
        for (int what = 0; what <= 3; what++) {
            d = d * 31 + y.vat(what);
        }
        for (int i = 0; i < 16; i++) {
            d = d * 31 + y.frame(i / 8, i % 8);
        }
        for (int i = 0; i < 36; i++) {
            d = d * 31 + y.store(i / 9, i % 9 + 1);
        }
        for (int i = 0; i < 18; i++) {
            d = d * 31 + y.order(i / 6, i % 6);
        }
        long due = d;
        check.due("24: what is told, in its order", due, y::digest);
        check.due("24: nothing is changed", due, y::digest);
    }
}
