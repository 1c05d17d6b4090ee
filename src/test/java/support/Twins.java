import java.util.function.Supplier;
import java.util.function.ToLongFunction;

/**
 * Two objects that ought to be in the same state are asked everything, and carried on by the same
 * calls, as the rules, the rooms, the latest colour and the latest lane come to light only so.
 */
final class Twins {
    private static final int PROBES = 9;
    // A new object has at most 512 calls: of many bodies only the latest ones are asked for.
    private static final int MOST_ASKED = 14;

    private Twins() { }

    static void alike(Check check, String told, Supplier<PaintSequencer> due,
            Supplier<PaintSequencer> got) {
        check.same(told + ", what is where", everything(due.get()), everything(got.get()));
        for (int probe = 0; probe < PROBES; probe++) {
            check.same(told + ", behind the calls " + probe, probed(due.get(), probe),
                probed(got.get(), probe));
        }
    }

    /** The call throws what is due, and nothing has changed. */
    static void refused(Check check, String told, Class<? extends RuntimeException> due,
            Supplier<PaintSequencer> made, ToLongFunction<PaintSequencer> call) {
        PaintSequencer x = made.get();
        check.fails(told, due, () -> call.applyAsLong(x));
        alike(check, told, made, () -> {
            PaintSequencer also = made.get();
            Check.outcome(() -> call.applyAsLong(also));
            return also;
        });
    }

    static String everything(PaintSequencer x) {
        StringBuilder all = new StringBuilder();
        all.append("bodies ").append(x.bodies()).append(" stored ").append(x.stored());
        all.append(" changes ").append(x.changes()).append(" released ").append(x.released());
        all.append(" worst ").append(x.worstLateness());
        all.append(" fewest ").append(Check.outcome(x::fewestChanges));
        all.append(" by all ").append(Check.outcome(x::fewestByAll));
        for (int lane = 0; lane < 6; lane++) {
            int told = lane;
            all.append("\n lane ").append(Check.outcome(() -> x.inLane(told)));
            all.append(" block ").append(Check.outcome(() -> x.block(told)));
            for (int place = 0; place < 7; place++) {
                int at = place;
                String body = Check.outcome(() -> x.bodyAt(told, at));
                all.append(' ').append(body);
                if (body.startsWith("throws")) {
                    break;
                }
            }
        }
        for (int body = Math.max(0, x.bodies() - MOST_ASKED); body <= x.bodies(); body++) {
            int told = body;
            all.append("\n body ").append(Check.outcome(() -> x.colour(told)));
            all.append(' ').append(Check.outcome(() -> x.where(told)));
            all.append(' ').append(Check.outcome(() -> x.lateness(told)));
            all.append(" at ").append(Check.outcome(() -> x.assembledAt(told)));
        }
        return all.toString();
    }

    private static String probed(PaintSequencer x, int probe) {
        StringBuilder told = new StringBuilder();
        switch (probe) {
            case 0 -> arriveOften(x, told);
            case 1 -> releaseOften(x, told);
            case 2 -> {
                x.setRules(2, 0);
                arriveOften(x, told);
            }
            case 3 -> {
                assembleOften(x, told);
                x.setRules(0, 1);
                releaseOften(x, told);
            }
            case 4 -> {
                reenterAll(x, told);
                assembleOften(x, told);
                releaseOften(x, told);
            }
            case 5 -> {
                for (int body = 0; body < Math.min(x.bodies(), MOST_ASKED); body++) {
                    int sent = body;
                    told.append(' ').append(Check.outcome(() -> x.sendBack(sent)));
                }
                told.append(' ').append(Check.outcome(x::releaseBest));
                reenterAll(x, told);
            }
            case 6 -> {
                x.setRules(1, 2);
                assembleOften(x, told);
                arriveOften(x, told);
                releaseOften(x, told);
            }
            case 7 -> {
                assembleOften(x, told);
                for (int lane = 0; lane < 5; lane++) {
                    int from = lane;
                    told.append(' ').append(Check.outcome(() -> x.releaseFrom(from)));
                }
                x.setRules(2, 0);
                arriveOften(x, told);
            }
            default -> {
                told.append(x.begin(4, 2, 4));
                arriveOften(x, told);
                releaseOften(x, told);
            }
        }
        return told.append('\n').append(everything(x)).toString();
    }

    private static void arriveOften(PaintSequencer x, StringBuilder told) {
        for (int call = 0; call < 32; call++) {
            int colour = call * call % 5;
            told.append(' ').append(Check.outcome(() -> x.arrive(colour)));
        }
    }

    private static void releaseOften(PaintSequencer x, StringBuilder told) {
        for (int call = 0; call < 7; call++) {
            told.append(' ').append(Check.outcome(x::release));
        }
    }

    private static void assembleOften(PaintSequencer x, StringBuilder told) {
        for (int call = 0; call < 7; call++) {
            told.append(' ').append(Check.outcome(x::assemble));
        }
    }

    private static void reenterAll(PaintSequencer x, StringBuilder told) {
        for (int body = 0; body < Math.min(x.bodies(), MOST_ASKED); body++) {
            int back = body;
            told.append(' ').append(Check.outcome(() -> x.reenter(back)));
        }
    }
}
