import java.util.ArrayList;
import java.util.List;

/**
 * What all the calls that change nothing tell of a workshop. They are asked in parts, each of an
 * object of its own, since nothing is promised of an object behind its 512th call.
 */
enum Telling {
    WHOLE {
        @Override
        void ask(CandleDip x, List<String> told) {
            for (int what = 0; what <= 8; what++) {
                int asked = what;
                tell(told, "count(" + what + ")", () -> x.count(asked));
            }
            for (int what = 0; what <= 3; what++) {
                int asked = what;
                tell(told, "vat(" + what + ")", () -> x.vat(asked));
            }
            for (int hook = 0; hook <= 11; hook++) {
                int asked = hook;
                tell(told, "hook(" + hook + ")", () -> x.hook(asked));
            }
            for (int i = 0; i < 36; i++) {
                int kind = i / 9;
                int size = i % 9 + 1;
                tell(told, "store(" + kind + ", " + size + ")", () -> x.store(kind, size));
            }
            tell(told, "advise()", x::advise);
            tell(told, "possible()", x::possible);
            tell(told, "mean()", x::mean);
            tell(told, "digest()", x::digest);
        }
    },

    FRAMES {
        @Override
        void ask(CandleDip x, List<String> told) {
            int frames = x.count(1);
            for (int i = 0; i < frames; i++) {
                int frame = i;
                for (int what = 0; what <= 7; what++) {
                    int asked = what;
                    tell(told, "frame(" + i + ", " + what + ")", () -> x.frame(frame, asked));
                }
                tell(told, "would(" + i + ", 1)", () -> x.would(frame, 1));
                tell(told, "would(" + i + ", 40)", () -> x.would(frame, 40));
                tell(told, "dipsTo(" + i + ", 0, 1)", () -> x.dipsTo(frame, 0, 1));
                tell(told, "dipsTo(" + i + ", 6, 3)", () -> x.dipsTo(frame, 6, 3));
                tell(told, "bestRest(" + i + ", 2)", () -> x.bestRest(frame, 2));
            }
        }
    },

    ORDERS {
        @Override
        void ask(CandleDip x, List<String> told) {
            int orders = x.count(4);
            for (int i = 0; i < orders; i++) {
                int order = i;
                for (int what = 0; what <= 5; what++) {
                    int asked = what;
                    tell(told, "order(" + i + ", " + what + ")", () -> x.order(order, asked));
                }
            }
        }
    };

    abstract void ask(CandleDip x, List<String> told);

    List<String> of(CandleDip x) {
        List<String> told = new ArrayList<>();
        ask(x, told);
        return told;
    }

    /** What calls that change something answer from now on. */
    static List<String> later(CandleDip x) {
        List<String> told = new ArrayList<>();
        tell(told, "pass(3)", () -> x.pass(3));
        tell(told, "dip(0)", () -> x.dip(0));
        tell(told, "addFrame(1, 2)", () -> x.addFrame(1, 2));
        tell(told, "hang(0, 10)", () -> x.hang(0, 10));
        tell(told, "addOrder(2, 1, 1, 1000)", () -> x.addOrder(2, 1, 1, 1000));
        tell(told, "fill(0)", () -> x.fill(0));
        tell(told, "melt(1)", () -> x.melt(1));
        tell(told, "setFire(2)", () -> x.setFire(2));
        tell(told, "pass(40)", () -> x.pass(40));
        tell(told, "cutOff(0)", () -> x.cutOff(0));
        tell(told, "layAside(0)", () -> x.layAside(0));
        tell(told, "digest()", x::digest);
        return told;
    }

    private static void tell(List<String> told, String call, Check.Call asked) {
        told.add(call + " = " + Check.answerOf(asked));
    }
}
