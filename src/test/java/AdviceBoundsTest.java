import java.math.BigInteger;
import java.util.ArrayList;
import java.util.List;

/** Promises 21 to 24 at their bounds: each test tells in its comment which sentence of the document it holds. */
public final class AdviceBoundsTest {
    private static final Check check = new Check();

    public static void main(String[] args) {
        promise21ThoseThatHang();
        promise21CanBeDippedFrom60();
        promise21CanBeDippedWithWaxEnough();
        promise21ThickerByTheMost();
        promise21SmallestNumber();
        promise21NoneWouldBeThicker();
        promise21NothingIsChanged();
        promise22NoneToFill();
        promise22JustEnough();
        promise22GreatEnough();
        promise22AsManyAsPossible();
        promise22AllTwenty();
        promise22OpenOnesAlone();
        promise22KindByKind();
        promise22NothingIsChanged();
        promise23ZeroIfThereAreNone();
        promise23LeastAndGreatest();
        promise23ByWicks();
        promise23NothingIsChanged();
        promise24NewObject();
        promise24FullWorkshop();
        promise24WrapsAround();
        promise24NothingIsChanged();
        check.end();
    }

    /** "of those that hang": none at all, aside, on the first and on the last hook. */
    private static void promise21ThoseThatHang() {
        CandleDip none = Workshop.withFrames(0);
        check.due("21: no frame", -1, none::advise);
        CandleDip x = Workshop.withFrames(0);
        x.addFrame(0, 1);
        check.due("21: aside", -1, x::advise);
        x.hang(0, 0);
        check.due("21: on the first hook", 0, x::advise);
        x.layAside(0);
        check.due("21: aside again", -1, x::advise);
        x.hang(0, 11);
        check.due("21: on the last hook", 0, x::advise);
        CandleDip full = Workshop.withFrames(12);
        for (int i = 0; i < 11; i++) {
            full.layAside(i);
        }
        check.due("21: the last of twelve frames alone", 11, full::advise);
    }

    /** "and can be dipped": at 60; not at 59. */
    private static void promise21CanBeDippedFrom60() {
        for (int heat = 59; heat <= 60; heat++) {
            CandleDip x = Workshop.atHeat(heat);
            Workshop.hung(x, 0, 1, 6);
            check.due("21: at " + heat, heat - 60, x::advise);
        }
    }

    /** "and can be dipped": with just wax enough, with 1 less, and with enough for another one alone. */
    private static void promise21CanBeDippedWithWaxEnough() {
        int[][] cases = {{0, -1}, {11, -1}, {12, 1}, {239, 1}, {240, 0}};
        for (int[] c : cases) {
            CandleDip x = Workshop.heated(c[0], 1, 40);
            Workshop.hung(x, 0, 20, 6);
            Workshop.hung(x, 0, 1, 7);
            check.due("21: " + c[0] + " wax for 240 or 12", c[1], x::advise);
        }
    }

    /**
     * "the one whose candles would be thicker by the most behind this dip": by 12 rather than by 11, whichever comes
     * first.
     */
    private static void promise21ThickerByTheMost() {
        CandleDip x = Workshop.steady();
        Workshop.hung(x, 0, 1, 6);
        Workshop.hung(x, 3, 1, 7);
        x.dip(0);
        check.due("21: the growth of frame 0", 15 + 11, () -> x.would(0, 1));
        check.due("21: the growth of frame 1", 12, () -> x.would(1, 1));
        check.due("21: 11 and 12", 1, x::advise);
        CandleDip y = Workshop.steady();
        Workshop.hung(y, 3, 1, 6);
        Workshop.hung(y, 0, 1, 7);
        y.dip(1);
        check.due("21: 12 and 11", 0, y::advise);
        CandleDip z = Workshop.thick(5000, 1, 399);
        Workshop.hung(z, 3, 1, 0);
        z.dip(1);
        check.due("21: 1 and 2", 1, z::advise);
    }

    /** "of several the one with the smallest number": by the numbers of the frames, not of the hooks. */
    private static void promise21SmallestNumber() {
        CandleDip x = Workshop.withFrames(0);
        for (int i = 0; i < 12; i++) {
            Workshop.hung(x, i == 4 ? 3 : 0, 1, 11 - i);
        }
        check.due("21: all twelve", 0, x::advise);
        x.layAside(0);
        check.due("21: eleven", 1, x::advise);
        x.dip(1);
        check.due("21: ten that are bare", 2, x::advise);
        x.dip(2);
        x.dip(3);
        check.due("21: frame 4 is of kind 3", 5, x::advise);
    }

    /** "-1 if none would be thicker": at 400, not at 399; at the warmth 71, not at 70; bare and warm. */
    private static void promise21NoneWouldBeThicker() {
        CandleDip full = Workshop.thick(5000, 1, 400);
        check.due("21: it can be dipped", 400, () -> full.would(0, 1));
        check.due("21: at 400", -1, full::advise);
        CandleDip nearly = Workshop.thick(5000, 1, 399);
        check.due("21: at 399", 0, nearly::advise);
        CandleDip warm = Workshop.withFrames(1);
        Workshop.dipOften(warm, 0, 5);
        check.due("21: a warmth of 71", 71, () -> warm.frame(0, 3));
        check.due("21: it would melt", -1, warm::advise);
        warm.dip(0);
        warm.hang(0, 6);
        warm.pass(5);
        check.due("21: a warmth of 70", 70, () -> warm.frame(0, 3));
        check.due("21: it would grow", 0, warm::advise);
        CandleDip bare = Workshop.hot(1000);
        Workshop.hung(bare, 0, 1, 6);
        Workshop.dipOften(bare, 0, 4);
        check.due("21: bare", 0, () -> bare.frame(0, 2));
        check.due("21: it would stay bare", -1, bare::advise);
    }

    /** "Returns this frame (nothing is changed)". */
    private static void promise21NothingIsChanged() {
        check.changesNothing("21: one", Workshop::busy, 0, CandleDip::advise);
        check.changesNothing("21: none", () -> Workshop.thick(5000, 1, 400), -1, CandleDip::advise);
        check.changesNothing("21: when new", CandleDip::new, -1, CandleDip::advise);
    }

    /** In the store: so many candles of the kind 2 of each of the sizes 1, 2 and 3, at most 20. */
    private static CandleDip stocked(int ofSize1, int ofSize2, int ofSize3) {
        CandleDip x = Workshop.steady();
        int[] many = {ofSize1, ofSize2, ofSize3};
        int[] dips = {4, 7, 11};
        for (int i = 0; i < 3; i++) {
            if (many[i] > 0) {
                int frame = Workshop.hung(x, 2, many[i], 6 + i);
                Workshop.harvest(x, frame, dips[i]);
            }
        }
        return x;
    }

    /** Adds orders of the kind 2, each by its least size and how many. */
    private static CandleDip ordered(CandleDip x, int... sizesAndMany) {
        for (int i = 0; i + 1 < sizesAndMany.length; i += 2) {
            x.addOrder(2, sizesAndMany[i], sizesAndMany[i + 1], 900);
        }
        return x;
    }

    /** "Tells how many of the orders that are open could be filled": without an order, and without a candle. */
    private static void promise22NoneToFill() {
        check.due("22: no order", 0, () -> stocked(5, 0, 0).possible());
        check.due("22: no candle", 0, () -> Workshop.withOrders(20).possible());
        check.due("22: neither", 0, () -> new CandleDip().possible());
    }

    /**
     * "could be filled from the store": one with just enough and with 1 less; two together with just enough and 1
     * less.
     */
    private static void promise22JustEnough() {
        check.due("22: 12 of 12", 1, () -> ordered(stocked(5, 4, 3), 1, 12).possible());
        check.due("22: 13 of 12", 0, () -> ordered(stocked(5, 4, 3), 1, 13).possible());
        check.due("22: 5 and 7 of 12", 2, () -> ordered(stocked(5, 4, 3), 1, 5, 1, 7).possible());
        check.due("22: 5 and 8 of 12", 1, () -> ordered(stocked(5, 4, 3), 1, 5, 1, 8).possible());
        check.due("22: 60 of 60", 1, () -> ordered(stocked(20, 20, 20), 1, 60).possible());
        check.due("22: 60 of 59", 0, () -> ordered(stocked(20, 20, 19), 1, 60).possible());
    }

    /** "with whatever candles that are great enough": those of the least size itself, not those of 1 less. */
    private static void promise22GreatEnough() {
        check.due("22: 7 of the sizes 2 and 3", 1, () -> ordered(stocked(5, 4, 3), 2, 7).possible());
        check.due("22: 8 of the sizes 2 and 3", 0, () -> ordered(stocked(5, 4, 3), 2, 8).possible());
        check.due("22: 3 of the size 3", 1, () -> ordered(stocked(5, 4, 3), 3, 3).possible());
        check.due("22: 4 of the size 3", 0, () -> ordered(stocked(5, 4, 3), 3, 4).possible());
        check.due("22: none of the size 4", 0, () -> ordered(stocked(5, 4, 3), 4, 1).possible());
        check.due("22: each size for its own order", 3, () -> ordered(stocked(5, 4, 3), 1, 5, 2, 4, 3, 3).possible());
        check.due("22: 1 more of the size 3", 2, () -> ordered(stocked(5, 4, 3), 1, 5, 2, 4, 3, 4).possible());
        check.due("22: 1 more of the size 2", 2, () -> ordered(stocked(5, 4, 3), 1, 5, 2, 5, 3, 3).possible());
        check.due("22: 1 more of the size 1", 2, () -> ordered(stocked(5, 4, 3), 1, 6, 2, 4, 3, 3).possible());
        CandleDip greatest = Workshop.steady();
        Workshop.hung(greatest, 3, 2, 6);
        Workshop.harvest(greatest, 0, 45);
        greatest.addOrder(3, 9, 1, 900);
        greatest.addOrder(3, 1, 1, 900);
        check.due("22: the size 9 for an order of 9 and one of 1", 2, greatest::possible);
        greatest.addOrder(3, 9, 1, 900);
        check.due("22: two of three", 2, greatest::possible);
    }

    /**
     * "if one filled as many as possible: the greatest number of them": great orders are left out for more small
     * ones, wherever they stand.
     */
    private static void promise22AsManyAsPossible() {
        check.due("22: 11 first, or 6 and 6", 2, () -> ordered(stocked(5, 4, 3), 1, 11, 1, 6, 1, 6).possible());
        check.due("22: 11 last, or 6 and 6", 2, () -> ordered(stocked(5, 4, 3), 1, 6, 1, 6, 1, 11).possible());
        check.due("22: 3 of the size 3, or 1, 1 and 1", 3, () -> ordered(stocked(0, 0, 3), 3, 3, 3, 1, 2, 1, 1, 1).possible());
        check.due("22: 7 of the size 2 leave 5", 2, () -> ordered(stocked(5, 4, 3), 2, 7, 3, 3, 1, 5).possible());
        check.due("22: 7 of the size 2, or 3 and 4", 3, () -> ordered(stocked(5, 4, 3), 2, 7, 3, 3, 2, 4, 1, 5).possible());
        check.due("22: 3 and 9, or 3, 4 and 5", 3, () -> ordered(stocked(5, 4, 3), 3, 3, 1, 9, 1, 4, 1, 5).possible());
    }

    /** "There are at most 20": all twenty together with 20 candles, nineteen with 19. */
    private static void promise22AllTwenty() {
        for (int candles = 19; candles <= 20; candles++) {
            CandleDip x = stocked(candles, 0, 0);
            for (int i = 1; i <= 20; i++) {
                x.addOrder(2, 1, 1, 900);
                check.due("22: " + i + " orders, " + candles + " candles", Math.min(i, candles), x::possible);
            }
        }
    }

    /** "the orders that are open": no filled one, and no late one, from the end of its day on. */
    private static void promise22OpenOnesAlone() {
        CandleDip x = stocked(5, 0, 0);
        int today = x.count(0) / 40;
        x.addOrder(2, 1, 1, today);
        x.addOrder(2, 1, 1, today + 1);
        x.addOrder(2, 1, 1, today + 1);
        check.due("22: three", 3, x::possible);
        x.fill(2);
        check.due("22: without a filled one", 2, x::possible);
        x.pass(39 - x.count(0) % 40);
        check.due("22: in the last quarter of the day", 2, x::possible);
        x.pass(1);
        check.due("22: without a late one", 1, x::possible);
        check.due("22: that could be filled", 1, () -> x.order(0, 5));
        x.pass(40);
        check.due("22: all are filled or late", 0, x::possible);
    }

    /** "of a kind": the candles of the kinds 0 and 3 serve their own orders alone. */
    private static void promise22KindByKind() {
        CandleDip x = Workshop.steady();
        Workshop.hung(x, 0, 2, 6);
        Workshop.harvest(x, 0, 4);
        Workshop.hung(x, 3, 3, 7);
        Workshop.harvest(x, 1, 5);
        for (int kind = 0; kind <= 3; kind++) {
            x.addOrder(kind, 1, 2, 900);
            x.addOrder(kind, 1, 1, 900);
        }
        check.due("22: 1 of 2 candles of kind 0, 2 of 3 of kind 3", 1 + 2, x::possible);
    }

    /** "Returns this number (nothing is changed)". */
    private static void promise22NothingIsChanged() {
        check.changesNothing("22: one of two", Workshop::busy, 1, CandleDip::possible);
        check.changesNothing("22: none of twenty", () -> Workshop.withOrders(20), 0, CandleDip::possible);
        check.changesNothing("22: three", () -> ordered(stocked(5, 4, 3), 1, 5, 2, 4, 3, 3), 3, CandleDip::possible);
    }

    /** "0 if there are none": no frame; one of bare wicks has the mean 0 too. */
    private static void promise23ZeroIfThereAreNone() {
        check.due("23: no frame", 0.0, () -> new CandleDip().mean());
        check.due("23: no frame over a full vat", 0.0, () -> Workshop.steady().mean());
        check.due("23: one bare frame", 0.0, () -> Workshop.withFrames(1).mean());
        check.due("23: twelve bare frames", 0.0, () -> Workshop.withFrames(12).mean());
        CandleDip cut = Workshop.thick(5000, 1, 40);
        check.due("23: ahead of cutting", 40.0, cut::mean);
        cut.pass(20);
        cut.cutOff(0);
        check.due("23: behind cutting", 0.0, cut::mean);
    }

    /** "a thickness, 0 to 400": the mean of 400 alone, and with a bare frame of 1 or of 20 wicks. */
    private static void promise23LeastAndGreatest() {
        CandleDip x = Workshop.thick(20000, 20, 400);
        check.due("23: the greatest", 400.0, x::mean);
        x.addFrame(0, 1);
        check.due("23: 400 * 20 / 21", 8000.0 / 21.0, x::mean);
        x.addFrame(0, 20);
        check.due("23: 400 * 20 / 41", 8000.0 / 41.0, x::mean);
    }

    /** "the mean thickness of the candles of all frames, by wicks": wherever they are, and no whole number. */
    private static void promise23ByWicks() {
        CandleDip x = Workshop.steady();
        Workshop.hung(x, 0, 1, 0);
        x.addFrame(1, 2);
        x.dip(0);
        check.due("23: 15 of 3 wicks", 5.0, x::mean);
        x.layAside(0);
        check.due("23: aside too", 5.0, x::mean);
        x.addFrame(0, 4);
        check.due("23: 15 of 7 wicks", 15.0 / 7.0, x::mean);
    }

    /** "Returns the mean thickness", and changes nothing. */
    private static void promise23NothingIsChanged() {
        check.changesNothing("23: without frames", CandleDip::new, 0.0, CandleDip::mean);
        check.changesNothing("23: with frames", Workshop::busy, Workshop.busy().mean(), CandleDip::mean);
    }

    /** "A number d starts with 613": of a new object, whose numbers are known: 0, but for the heat of 20. */
    private static void promise24NewObject() {
        List<Integer> told = new ArrayList<>();
        for (int i = 0; i < 9 + 4 + 36; i++) {
            told.add(i == 10 ? 20 : 0);
        }
        long due = sum(told).longValue();
        check.due("24: digest() when new", due, () -> new CandleDip().digest());
    }

    /** d without any bound. */
    private static BigInteger sum(List<Integer> told) {
        BigInteger d = BigInteger.valueOf(613);
        for (int x : told) {
            d = d.multiply(BigInteger.valueOf(31)).add(BigInteger.valueOf(x));
        }
        return d;
    }

    /**
     * "what count() tells, in its order; what vat() tells ..; for each frame ..; for each kind and size ..; for each
     * order".
     */
    private static List<Integer> told(CandleDip x) {
        List<Integer> told = new ArrayList<>();
        for (int what = 0; what <= 8; what++) {
            told.add(x.count(what));
        }
        for (int what = 0; what <= 3; what++) {
            told.add(x.vat(what));
        }
        int frames = x.count(1);
        for (int i = 0; i < 8 * frames; i++) {
            told.add(x.frame(i / 8, i % 8));
        }
        for (int i = 0; i < 36; i++) {
            told.add(x.store(i / 9, i % 9 + 1));
        }
        int orders = x.count(4);
        for (int i = 0; i < 6 * orders; i++) {
            told.add(x.order(i / 6, i % 6));
        }
        return told;
    }

    /**
     * "for each frame .. for each order": none, one, some, and all twelve frames with all twenty orders; with -1 for
     * those aside.
     */
    private static void promise24FullWorkshop() {
        CandleDip full = Workshop.withFrames(12);
        for (int i = 0; i < 20; i++) {
            full.addOrder(i % 4, 1 + i % 9, 1 + 3 * i, 50 * i + 1);
        }
        full.dip(11);
        full.layAside(0);
        full.pass(60);
        CandleDip[] workshops = {new CandleDip(), Workshop.withFrames(1), Workshop.withOrders(1), Workshop.busy(), full};
        int[] numbers = {49, 49 + 8, 49 + 6, 49 + 5 * 8 + 4 * 6, 49 + 12 * 8 + 20 * 6};
        for (int i = 0; i < workshops.length; i++) {
            CandleDip x = workshops[i];
            List<Integer> told = told(x);
            check.due("24: numbers that are told", numbers[i], told::size);
            check.due("24: digest() of " + numbers[i] + " numbers", sum(told).longValue(), x::digest);
        }
    }

    /**
     * "which wraps around as a 64-bit integer": the sum without a bound is far greater, and some sums are less than
     * 0.
     */
    private static void promise24WrapsAround() {
        check.due("24: the sum wants more than 64 bits", true, () -> sum(told(new CandleDip())).bitLength() > 64);
        int below = 0;
        int above = 0;
        for (int quarter = 1; quarter <= 40; quarter++) {
            CandleDip x = Workshop.heated(7, 3, quarter);
            BigInteger sum = sum(told(x));
            check.due("24: digest() at the quarter " + quarter, sum.longValue(), x::digest);
            if (sum.longValue() < 0) {
                below++;
            } else {
                above++;
            }
        }
        int[] signs = {below, above};
        check.due("24: some are less than 0", true, () -> signs[0] > 0);
        check.due("24: some are not", true, () -> signs[1] > 0);
    }

    /** "Returns d", and changes nothing. */
    private static void promise24NothingIsChanged() {
        check.changesNothing("24: when new", CandleDip::new, new CandleDip().digest(), CandleDip::digest);
        check.changesNothing("24: with all", Workshop::busy, Workshop.busy().digest(), CandleDip::digest);
    }
}
