/** Promises 1 to 4: a new object, and the vat. */
public final class VatTest {
    private static final Check check = new Check();

    public static void main(String[] args) {
        promise01ObjectsAreApart();
        promise02MeltMixesHeat();
        promise03SetFire();
        promise04Vat();
        check.end();
    }

    private static void promise01ObjectsAreApart() {
        CandleDip used = Workshop.steady();
        Workshop.hung(used, 0, 5, 0);
        used.addOrder(0, 1, 1, 9);
        used.dip(0);
        CandleDip fresh = new CandleDip();
        check.due("1: digest of a new object beside a used one", new Model().digest(), fresh::digest);
    }

    private static void promise02MeltMixesHeat() {
        CandleDip x = new CandleDip();
        check.due("2: melt(1) into an empty vat", 20, () -> x.melt(1));
        check.due("2: melt(3999)", 20, () -> x.melt(3999));
        check.due("2: wax", 4000, () -> x.vat(0));
        x.setFire(5);
        x.pass(4);
        check.due("2: (114 * 4000 + 20 * 1000) / 5000", 95, () -> x.melt(1000));
        check.due("2: heat behind it", 95, () -> x.vat(1));
        check.due("2: wax behind it", 5000, () -> x.vat(0));
        check.due("2: the fire stays", 5, () -> x.vat(2));
        check.due("2: no quarter goes by", 4, () -> x.count(0));

        CandleDip empty = Workshop.heated(0, 5, 4);
        check.due("2: an empty vat is heated too", 114, () -> empty.vat(1));
        check.due("2: wax in a hot empty vat has its own heat", 20, () -> empty.melt(10));
    }

    private static void promise03SetFire() {
        CandleDip x = new CandleDip();
        check.due("3: setFire(5)", 0, () -> x.setFire(5));
        check.due("3: setFire(2)", 5, () -> x.setFire(2));
        check.due("3: setFire(2) again", 2, () -> x.setFire(2));
        check.due("3: setFire(0)", 2, () -> x.setFire(0));
        check.due("3: setFire(1)", 0, () -> x.setFire(1));
        check.due("3: the level", 1, () -> x.vat(2));
        check.due("3: no quarter goes by", 0, () -> x.count(0));
        check.due("3: the heat stays", 20, () -> x.vat(1));
    }

    private static void promise04Vat() {
        CandleDip x = new CandleDip();
        x.melt(300);
        x.setFire(4);
        x.pass(1);
        check.due("4: wax", 300, () -> x.vat(0));
        check.due("4: heat", 42, () -> x.vat(1));
        check.due("4: level", 4, () -> x.vat(2));
        check.due("4: melted", 0, () -> x.vat(3));
    }
}
