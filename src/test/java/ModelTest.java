import java.util.List;
import java.util.function.LongSupplier;

/**
 * Runs of 512 calls on a fresh object each, ordinary and wrong ones mixed, every answer compared
 * with that of the model. The calls are drawn by a fixed rule, so that every run is always the same.
 */
public final class ModelTest {
    private static final int RUNS = 3000;
    private static final int CALLS = 512;
    private static final List<String> DUE = List.of("throws.IllegalArgumentException",
        "throws.IndexOutOfBoundsException", "throws.IllegalStateException");

    private static long drawn;

    private static int draw(int below) {
        drawn = drawn * 6364136223846793005L + 1442695040888963407L;
        return (int) ((drawn >>> 33) % below);
    }

    /** Mostly a number of the range, now and then one at its edges or far outside. */
    private static int around(int least, int most) {
        switch (draw(24)) {
            case 0: return least - 1;
            case 1: return most + 1;
            case 2: return new int[] {Integer.MIN_VALUE, Integer.MAX_VALUE, -99, 99, 100}[draw(5)];
            default: return least + draw(Math.max(1, most - least + 1));
        }
    }

    public static void main(String[] args) {
        Check check = new Check("ModelTest");
        int[] answered = new int[24];
        for (int run = 0; run < RUNS && check.wrong() == 0; run++) {
            drawn = run;
            oneRun(check, run, answered);
        }
        for (int call = 0; call < 24; call++) {
            check.same("call " + call + " answered", true, answered[call] > RUNS / 10);
        }
        check.end();
    }

    private static void oneRun(Check check, int run, int[] answered) {
        PaintSequencer x = new PaintSequencer();
        Model model = new Model();
        int begins = draw(4) == 0 ? 8 : 1;
        int colours = 1 + draw(5);
        int moving = 30 + draw(60);
        int coming = 10 + draw(60);
        if (draw(5) > 0) {
            int lanes = 1 + draw(5);
            int depth = 1 + draw(6);
            int store = 1 + draw(6);
            model.begin(lanes, depth, store);
            x.begin(lanes, depth, store);
        }
        for (int call = 1; call < CALLS && check.wrong() == 0; call++) {
            int kind = draw(100) < moving ? movingKind(coming, begins) : 10 + draw(14);
            int first = first(kind, colours, model);
            int second = second(kind);
            int third = around(1, 6);
            String due = Check.outcome(asked(model, kind, first, second, third));
            String got = Check.outcome(asked(x, kind, first, second, third));
            String told = "run " + run + ", call " + call + ", kind " + kind + "(" + first + ", "
                + second + ", " + third + ")";
            check.same(told, due, got);
            check.same(told + " is a due kind of answer", true,
                !got.startsWith("throws.") || DUE.contains(got));
            if (!got.startsWith("throws.")) {
                answered[kind]++;
            }
        }
    }

    private static int movingKind(int coming, int begins) {
        if (draw(100) < coming) {
            return draw(3) > 0 ? 2 : 3;
        }
        int kind = draw(100);
        if (kind < begins) {
            return 0;
        }
        return kind < 15 ? 1 : new int[] {4, 4, 5, 6, 6, 7, 8, 9, 9}[draw(9)];
    }

    private static int first(int kind, int colours, Model model) {
        switch (kind) {
            case 0: return around(1, 5);
            case 1: return around(0, 2);
            case 2: case 3: return around(0, colours - 1);
            case 7: case 8: return draw(2) == 0 ? around(0, model.bodies() - 1) : movable(kind, model);
            case 5: case 13: case 14: case 15: return around(0, 4);
            default: return around(0, model.bodies() - 1);
        }
    }

    /** A body that can be sent back or come in again, if there is one. */
    private static int movable(int kind, Model model) {
        for (int body = model.bodies() - 1; body >= 0; body--) {
            if (model.where(body) == (kind == 7 ? 10 : 11)) {
                return body;
            }
        }
        return 0;
    }

    private static int second(int kind) {
        switch (kind) {
            case 0: return around(1, 6);
            case 1: return around(0, 2);
            case 3: return around(0, 4);
            default: return around(0, 5);
        }
    }

    private static LongSupplier asked(PaintSequencer x, int kind, int a, int b, int c) {
        switch (kind) {
            case 0: return () -> x.begin(a, b, c);
            case 1: return () -> {
                x.setRules(a, b);
                return 0;
            };
            case 2: return () -> x.arrive(a);
            case 3: return () -> x.arriveIn(a, b);
            case 4: return x::release;
            case 5: return () -> x.releaseFrom(a);
            case 6: return x::releaseBest;
            case 7: return () -> x.sendBack(a);
            case 8: return () -> x.reenter(a);
            case 9: return x::assemble;
            case 10: return x::bodies;
            case 11: return () -> x.colour(a);
            case 12: return () -> x.where(a);
            case 13: return () -> x.inLane(a);
            case 14: return () -> x.bodyAt(a, b);
            case 15: return () -> x.block(a);
            case 16: return x::stored;
            case 17: return x::changes;
            case 18: return x::released;
            case 19: return () -> x.assembledAt(a);
            case 20: return () -> x.lateness(a);
            case 21: return x::worstLateness;
            case 22: return x::fewestChanges;
            default: return x::fewestByAll;
        }
    }

    private static LongSupplier asked(Model x, int kind, int a, int b, int c) {
        switch (kind) {
            case 0: return () -> x.begin(a, b, c);
            case 1: return () -> x.setRules(a, b);
            case 2: return () -> x.arrive(a);
            case 3: return () -> x.arriveIn(a, b);
            case 4: return x::release;
            case 5: return () -> x.releaseFrom(a);
            case 6: return x::releaseBest;
            case 7: return () -> x.sendBack(a);
            case 8: return () -> x.reenter(a);
            case 9: return x::assemble;
            case 10: return x::bodies;
            case 11: return () -> x.colour(a);
            case 12: return () -> x.where(a);
            case 13: return () -> x.inLane(a);
            case 14: return () -> x.bodyAt(a, b);
            case 15: return () -> x.block(a);
            case 16: return x::stored;
            case 17: return x::changes;
            case 18: return x::released;
            case 19: return () -> x.assembledAt(a);
            case 20: return () -> x.lateness(a);
            case 21: return x::worstLateness;
            case 22: return x::fewestChanges;
            default: return x::fewestByAll;
        }
    }
}
