/** Promises 16 and 17: quarters, and counts. */
public final class QuartersTest {
    private static final Check check = new Check();

    public static void main(String[] args) {
        promise16Fire();
        promise16Cooling();
        promise16OrdersBecomeLate();
        promise17Count();
        check.end();
    }

    private static void promise16Fire() {
        int[] rising = {47, 72, 94, 114, 120, 120};
        int[] falling = {110, 101, 93, 86, 80, 74};
        CandleDip x = new CandleDip();
        x.melt(100);
        x.setFire(5);
        for (int i = 0; i < rising.length; i++) {
            check.due("16: heat behind " + (i + 1) + " quarters of fire", rising[i], () -> x.pass(1));
        }
        x.setFire(0);
        for (int i = 0; i < falling.length; i++) {
            check.due("16: heat behind " + (i + 1) + " quarters without", falling[i], () -> x.pass(1));
        }
        check.due("16: it falls to 29", 29, () -> x.pass(400));
        check.due("16: the quarter", 412, () -> x.count(0));
        check.due("16: wax stays", 100, () -> x.vat(0));

        CandleDip y = new CandleDip();
        y.setFire(1);
        check.due("16: several quarters in one call", 70, () -> y.pass(19));
        check.due("16: the fire goes on", 1, () -> y.vat(2));
        CandleDip z = new CandleDip();
        check.due("16: without a fire it stays at 20", 20, () -> z.pass(1));
    }

    private static void promise16Cooling() {
        CandleDip x = Workshop.steady();
        Workshop.hung(x, 0, 1, 0);
        Workshop.hung(x, 0, 1, 11);
        Workshop.hung(x, 0, 1, 1);
        Workshop.dipOften(x, 0, 6);
        Workshop.dipOften(x, 1, 6);
        Workshop.dipOften(x, 2, 6);
        x.layAside(2);
        int[] ahead = {x.frame(0, 3), x.frame(1, 3), x.frame(2, 3)};
        check.due("16: warmth on rack 0", 0, () -> ahead[0]);
        check.due("16: warmth on rack 1", 64, () -> ahead[1]);
        check.due("16: warmth of melted ones", 100, () -> ahead[2]);
        x.pass(3);
        check.due("16: rack 1 behind three quarters", 46, () -> x.frame(1, 3));
        check.due("16: aside behind three quarters", 91, () -> x.frame(2, 3));
        x.hang(2, 5);
        x.pass(2);
        check.due("16: rack 0 behind two quarters", 67, () -> x.frame(2, 3));
        x.pass(40);
        for (int frame = 0; frame <= 2; frame++) {
            int asked = frame;
            check.due("16: warmth is at least 0", 0, () -> x.frame(asked, 3));
        }
    }

    private static void promise16OrdersBecomeLate() {
        CandleDip x = new CandleDip();
        x.addOrder(0, 1, 1, 0);
        x.addOrder(0, 1, 1, 1);
        x.addOrder(0, 1, 1, 2);
        x.pass(39);
        check.due("16: none is late in the last quarter of day 0", 0, () -> x.count(6));
        x.pass(1);
        check.due("16: order 0 is late at the end of day 0", 2, () -> x.order(0, 4));
        check.due("16: order 1 is open then", 0, () -> x.order(1, 4));
        x.pass(80);
        check.due("16: order 1 is late behind day 1", 2, () -> x.order(1, 4));
        check.due("16: order 2 is late behind day 2", 2, () -> x.order(2, 4));
        check.due("16: three are late", 3, () -> x.count(6));

        CandleDip y = Workshop.heated(5000, 1, 39);
        y.addOrder(0, 1, 1, 0);
        Workshop.hung(y, 0, 1, 0);
        y.dip(0);
        check.due("16: a dip ends a day too", 2, () -> y.order(0, 4));
    }

    private static void promise17Count() {
        CandleDip x = Workshop.steady();
        Workshop.hung(x, 0, 6, 6);
        Workshop.hung(x, 1, 7, 0);
        x.addFrame(2, 8);
        Workshop.harvest(x, 0, 4);
        Workshop.dipOften(x, 1, 6);
        x.pass(9);
        x.cutOff(1);
        Workshop.harvest(x, 0, 1);
        int today = x.count(0) / 40;
        x.addOrder(0, 1, 1, today);
        x.addOrder(0, 2, 1, today);
        x.addOrder(0, 1, 2, today + 1);
        x.fill(0);
        x.pass(40);
        int[] due = {40 + 12 + 10 + 6 + 9 + 3 + 10 + 40, 3, 2, 6 + 7 - 1, 3, 1, 1, 11, 6};
        for (int what = 0; what <= 8; what++) {
            int asked = what;
            check.due("17: count(" + what + ")", due[what], () -> x.count(asked));
        }
    }
}
