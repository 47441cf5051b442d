/** Promises 1 to 4: a new object, and the vat. */
public final class VatTest {
    private static final Check check = new Check();

    public static void main(String[] args) {
        promise01NewObject();
        promise01ObjectsAreApart();
        promise02MeltMixesHeat();
        promise02MeltRefuses();
        promise03SetFire();
        promise04Vat();
        promise04MeltedFromSixty();
        check.end();
    }

    private static void promise01NewObject() {
        CandleDip x = new CandleDip();
        for (int what = 0; what <= 8; what++) {
            int asked = what;
            check.due("1: count(" + what + ") of a new object", 0, () -> x.count(asked));
        }
        check.due("1: wax of a new object", 0, () -> x.vat(0));
        check.due("1: heat of a new object", 20, () -> x.vat(1));
        check.due("1: fire of a new object", 0, () -> x.vat(2));
        check.due("1: melted, of a new object", 0, () -> x.vat(3));
        for (int hook = 0; hook <= 11; hook++) {
            int asked = hook;
            check.due("1: hook(" + hook + ") of a new object", -1, () -> x.hook(asked));
        }
        for (int kind = 0; kind <= 3; kind++) {
            for (int size = 1; size <= 9; size++) {
                int askedKind = kind;
                int askedSize = size;
                check.due("1: store(" + kind + ", " + size + ") of a new object", 0, () -> x.store(askedKind, askedSize));
            }
        }
        check.noIndex("1: frame of a new object", () -> x.frame(0, 0));
        check.noIndex("1: order of a new object", () -> x.order(0, 0));
    }

    private static void promise01ObjectsAreApart() {
        CandleDip used = Workshop.steady();
        Workshop.hung(used, 0, 5, 0);
        used.addOrder(0, 1, 1, 9);
        used.dip(0);
        CandleDip fresh = new CandleDip();
        check.due("1: digest of a new object beside a used one", new Model().digest(), fresh::digest);
    }

    private static void promise02MeltMixesHeat() {
        CandleDip x = new CandleDip();
        check.due("2: melt(1) into an empty vat", 20, () -> x.melt(1));
        check.due("2: melt(3999)", 20, () -> x.melt(3999));
        check.due("2: wax", 4000, () -> x.vat(0));
        x.setFire(5);
        x.pass(4);
        check.due("2: (114 * 4000 + 20 * 1000) / 5000", 95, () -> x.melt(1000));
        check.due("2: heat behind it", 95, () -> x.vat(1));
        check.due("2: wax behind it", 5000, () -> x.vat(0));
        check.due("2: the fire stays", 5, () -> x.vat(2));
        check.due("2: no quarter goes by", 4, () -> x.count(0));

        CandleDip empty = Workshop.heated(0, 5, 4);
        check.due("2: an empty vat is heated too", 114, () -> empty.vat(1));
        check.due("2: wax in a hot empty vat has its own heat", 20, () -> empty.melt(10));
    }

    private static void promise02MeltRefuses() {
        CandleDip x = new CandleDip();
        for (int wax : new int[] {0, 5001, -1, Integer.MIN_VALUE, Integer.MAX_VALUE}) {
            check.refused("2: melt(" + wax + ")", x, IllegalArgumentException.class, () -> x.melt(wax));
        }
        check.due("2: melt(5000)", 20, () -> x.melt(5000));
        x.melt(5000);
        x.melt(5000);
        x.melt(4999);
        check.refused("2: melt(2) at 19999", x, IllegalStateException.class, () -> x.melt(2));
        check.due("2: melt(1) at 19999", 20, () -> x.melt(1));
        check.due("2: a full vat", 20000, () -> x.vat(0));
        check.refused("2: melt(1) at 20000", x, IllegalStateException.class, () -> x.melt(1));
        check.refused("2: melt(5001) at 20000", x, IllegalArgumentException.class, () -> x.melt(5001));
    }

    private static void promise03SetFire() {
        CandleDip x = new CandleDip();
        check.due("3: setFire(5)", 0, () -> x.setFire(5));
        check.due("3: setFire(2)", 5, () -> x.setFire(2));
        check.due("3: setFire(2) again", 2, () -> x.setFire(2));
        check.due("3: setFire(0)", 2, () -> x.setFire(0));
        check.due("3: setFire(1)", 0, () -> x.setFire(1));
        check.due("3: the level", 1, () -> x.vat(2));
        check.due("3: no quarter goes by", 0, () -> x.count(0));
        check.due("3: the heat stays", 20, () -> x.vat(1));
        for (int level : new int[] {-1, 6, Integer.MIN_VALUE, Integer.MAX_VALUE}) {
            check.refused("3: setFire(" + level + ")", x, IllegalArgumentException.class, () -> x.setFire(level));
        }
    }

    private static void promise04Vat() {
        CandleDip x = new CandleDip();
        x.melt(300);
        x.setFire(4);
        x.pass(1);
        check.due("4: wax", 300, () -> x.vat(0));
        check.due("4: heat", 42, () -> x.vat(1));
        check.due("4: level", 4, () -> x.vat(2));
        check.due("4: melted", 0, () -> x.vat(3));
        for (int what : new int[] {-1, 4, Integer.MIN_VALUE, Integer.MAX_VALUE}) {
            check.refused("4: vat(" + what + ")", x, IndexOutOfBoundsException.class, () -> x.vat(what));
        }
    }

    private static void promise04MeltedFromSixty() {
        CandleDip x = Workshop.heated(39, 1, 10);
        check.due("4: heat behind 10 quarters", 58, () -> x.vat(1));
        check.due("4: not melted at 58", 0, () -> x.vat(3));
        x.pass(1);
        check.due("4: heat behind 11 quarters", 60, () -> x.vat(1));
        check.due("4: melted at 60", 1, () -> x.vat(3));
        x.melt(1);
        check.due("4: heat behind a little wax", 59, () -> x.vat(1));
        check.due("4: not melted at 59", 0, () -> x.vat(3));

        CandleDip empty = Workshop.heated(0, 5, 4);
        check.due("4: an empty vat is melted by its heat", 1, () -> empty.vat(3));
    }
}
