import java.util.ArrayList;
import java.util.List;

/** "A method that throws an exception changes nothing": all the calls that are refused, one behind the other on one object. */
public final class ExceptionsTest {
    private static final Check check = new Check();

    private static final Class<?> INDEX = IndexOutOfBoundsException.class;
    private static final Class<?> ARGUMENT = IllegalArgumentException.class;
    private static final Class<?> STATE = IllegalStateException.class;

    /** What the refused calls of one object have thrown, and what each should. */
    private final List<String> got = new ArrayList<>();
    private final List<String> due = new ArrayList<>();

    public static void main(String[] args) {
        noneOfThemChangesABusyWorkshop();
        noneOfThemChangesAFullWorkshop();
        noneOfThemChangesANewWorkshop();
        check.end();
    }

    private void expect(String what, Class<?> exception, Check.Call call) {
        due.add(what + " throws " + exception);
        got.add(what + " throws " + Check.answerOf(call));
    }

    private static void noneOfThemChangesABusyWorkshop() {
        check.changesNothing("exceptions: busy", Workshop::busy, true, x -> {
            ExceptionsTest all = new ExceptionsTest();
            all.forAnyState(x, 5, 4);
            all.forABusyState(x);
            return all.asDue();
        });
    }

    private static void noneOfThemChangesAFullWorkshop() {
        check.changesNothing("exceptions: full", ExceptionsTest::full, true, x -> {
            ExceptionsTest all = new ExceptionsTest();
            all.forAnyState(x, 12, 20);
            all.forAFullState(x);
            return all.asDue();
        });
    }

    private static void noneOfThemChangesANewWorkshop() {
        check.changesNothing("exceptions: new", CandleDip::new, true, x -> {
            ExceptionsTest all = new ExceptionsTest();
            all.forAnyState(x, 0, 0);
            return all.asDue();
        });
    }

    private static CandleDip full() {
        CandleDip x = Workshop.withFrames(12);
        for (int i = 0; i < 20; i++) {
            x.addOrder(i % 4, 1, 2, 900);
        }
        return x;
    }

    private boolean asDue() {
        for (int i = 0; i < due.size(); i++) {
            if (!due.get(i).equals(got.get(i))) {
                System.out.println(got.get(i) + ", due is: " + due.get(i));
            }
        }
        return due.equals(got);
    }

    private void forAnyState(CandleDip x, int frames, int orders) {
        expect("melt(0)", ARGUMENT, () -> x.melt(0));
        expect("melt(5001)", ARGUMENT, () -> x.melt(5001));
        expect("setFire(-1)", ARGUMENT, () -> x.setFire(-1));
        expect("setFire(6)", ARGUMENT, () -> x.setFire(6));
        expect("vat(-1)", INDEX, () -> x.vat(-1));
        expect("vat(4)", INDEX, () -> x.vat(4));
        expect("addFrame(4, 1)", ARGUMENT, () -> x.addFrame(4, 1));
        expect("addFrame(0, 21)", ARGUMENT, () -> x.addFrame(0, 21));
        expect("hook(12)", INDEX, () -> x.hook(12));
        expect("store(4, 1)", INDEX, () -> x.store(4, 1));
        expect("store(0, 10)", INDEX, () -> x.store(0, 10));
        expect("addOrder(4, 1, 1, 1000)", ARGUMENT, () -> x.addOrder(4, 1, 1, 1000));
        expect("addOrder(0, 10, 1, 1000)", ARGUMENT, () -> x.addOrder(0, 10, 1, 1000));
        expect("addOrder(0, 1, 61, 1000)", ARGUMENT, () -> x.addOrder(0, 1, 61, 1000));
        expect("addOrder(0, 1, 1, 1001)", ARGUMENT, () -> x.addOrder(0, 1, 1, 1001));
        expect("pass(0)", ARGUMENT, () -> x.pass(0));
        expect("pass(401)", ARGUMENT, () -> x.pass(401));
        expect("count(9)", INDEX, () -> x.count(9));
        for (int frame : new int[] {-1, frames}) {
            expect("hang(" + frame + ", 3)", INDEX, () -> x.hang(frame, 3));
            expect("layAside(" + frame + ")", INDEX, () -> x.layAside(frame));
            expect("dip(" + frame + ")", INDEX, () -> x.dip(frame));
            expect("cutOff(" + frame + ")", INDEX, () -> x.cutOff(frame));
            expect("frame(" + frame + ", 0)", INDEX, () -> x.frame(frame, 0));
            expect("would(" + frame + ", 1)", INDEX, () -> x.would(frame, 1));
            expect("dipsTo(" + frame + ", 0, 1)", INDEX, () -> x.dipsTo(frame, 0, 1));
            expect("bestRest(" + frame + ", 1)", INDEX, () -> x.bestRest(frame, 1));
        }
        for (int order : new int[] {-1, orders}) {
            expect("fill(" + order + ")", INDEX, () -> x.fill(order));
            expect("order(" + order + ", 0)", INDEX, () -> x.order(order, 0));
        }
    }

    private void forABusyState(CandleDip x) {
        expect("hang(0, 12)", ARGUMENT, () -> x.hang(0, 12));
        expect("hang(0, 7)", STATE, () -> x.hang(0, 7));
        expect("layAside(3)", STATE, () -> x.layAside(3));
        expect("dip(3)", STATE, () -> x.dip(3));
        expect("cutOff(0), bare", STATE, () -> x.cutOff(0));
        expect("cutOff(4), warm", STATE, () -> x.cutOff(4));
        expect("frame(0, 8)", INDEX, () -> x.frame(0, 8));
        expect("fill(2), filled", STATE, () -> x.fill(2));
        expect("fill(3), not enough", STATE, () -> x.fill(3));
        expect("order(0, 6)", INDEX, () -> x.order(0, 6));
        expect("would(0, 41)", ARGUMENT, () -> x.would(0, 41));
        expect("would(3, 1)", STATE, () -> x.would(3, 1));
        expect("dipsTo(0, 21, 1)", ARGUMENT, () -> x.dipsTo(0, 21, 1));
        expect("dipsTo(3, 0, 1)", STATE, () -> x.dipsTo(3, 0, 1));
        expect("bestRest(0, 10)", ARGUMENT, () -> x.bestRest(0, 10));
        expect("bestRest(3, 1)", STATE, () -> x.bestRest(3, 1));
    }

    private void forAFullState(CandleDip x) {
        expect("melt(1), a full vat", STATE, () -> x.melt(1));
        expect("addFrame(0, 1), a 13th", STATE, () -> x.addFrame(0, 1));
        expect("addOrder(0, 1, 1, 1000), a 21st", STATE, () -> x.addOrder(0, 1, 1, 1000));
        expect("hang(0, 11), a full rack", STATE, () -> x.hang(0, 11));
    }
}
