import java.util.function.Supplier;

/**
 * The edges that promises 1 to 3 name, each taken as far as it goes: the least and the greatest
 * value in range, what a new object has, and where the counts start again. The calls that are
 * refused one step further stand in RefusedTest.
 */
public final class EdgesSettingUpTest {
    private static final Class<IndexOutOfBoundsException> INDEX = IndexOutOfBoundsException.class;
    private static final Class<IllegalStateException> STATE = IllegalStateException.class;

    private static final Check check = new Check("EdgesSettingUpTest");

    public static void main(String[] args) {
        newObjectHasThreeLanes();
        newObjectHasTheDepthFour();
        newObjectHasAStoreForThree();
        newObjectHasNoBodies();
        entryRuleIsZeroAtFirst();
        exitRuleIsZeroAtFirst();
        beginTakesOneToFiveLanes();
        beginTakesADepthOfOneToSix();
        beginTakesAStoreForOneToSix();
        beginReturnsHowManyHadCome();
        beginIsAsNewButForTheRules();
        beginForgetsLanesThatWereLeftOut();
        beginLetsNinetyNineComeAgain();
        setRulesTakesAllNine();
        setRulesMovesNothing();
        setRulesTheLatestCount();
        check.end();
    }

    /** Calls and throws away what is answered. */
    private static void times(int count, Runnable call) {
        for (int time = 0; time < count; time++) {
            call.run();
        }
    }

    // ---- Promise 1

    private static void newObjectHasThreeLanes() {
        PaintSequencer x = new PaintSequencer();
        check.answers("1 lane 0", 0, () -> x.inLane(0));
        check.answers("1 lane 2", 0, () -> x.inLane(2));
        check.fails("1 lane 3", INDEX, () -> x.inLane(3));
        check.answers("1 a body in lane 2", 0, () -> x.arriveIn(0, 2));
    }

    private static void newObjectHasTheDepthFour() {
        for (int lane = 0; lane < 3; lane++) {
            int told = lane;
            PaintSequencer x = new PaintSequencer();
            for (int body = 0; body < 4; body++) {
                check.answers("1 the depth is 4", body, () -> x.arriveIn(0, told));
            }
            check.fails("1 the depth is 4", STATE, () -> x.arriveIn(0, told));
        }
    }

    private static void newObjectHasAStoreForThree() {
        PaintSequencer x = new PaintSequencer();
        times(4, () -> x.arriveIn(0, 0));
        for (int body = 0; body < 3; body++) {
            check.answers("1 a store for 3", body, x::release);
        }
        check.fails("1 a store for 3", STATE, x::release);
    }

    private static void newObjectHasNoBodies() {
        PaintSequencer x = new PaintSequencer();
        check.answers("1 no bodies", 0, x::bodies);
        check.answers("1 none stored", 0, x::stored);
        check.answers("1 no changes", 0, x::changes);
        check.answers("1 none released", 0, x::released);
        check.answers("1 none late", 0, x::worstLateness);
        check.answers("1 none in lanes", 0, x::fewestChanges);
        check.answers("1 none in lanes", 0, x::fewestByAll);
        for (int lane = 0; lane < 3; lane++) {
            int told = lane;
            check.answers("1 the lane is empty", 0, () -> x.inLane(told));
            check.answers("1 the lane is empty", 0, () -> x.block(told));
            check.fails("1 the lane is empty", INDEX, () -> x.bodyAt(told, 0));
        }
        check.fails("1 none assembled", INDEX, () -> x.assembledAt(0));
        check.fails("1 without bodies", INDEX, () -> x.where(0));
    }

    private static void entryRuleIsZeroAtFirst() {
        PaintSequencer x = new PaintSequencer();
        x.arriveIn(1, 1);
        x.arriveIn(0, 0);
        // By rule 1 it would be lane 0, by rule 2 lane 1.
        check.answers("Terms, the entry rule, 0 at first", 2, () -> x.arrive(0));
    }

    private static void exitRuleIsZeroAtFirst() {
        PaintSequencer x = new PaintSequencer();
        Scene.fill(x, 0, "01");
        Scene.fill(x, 1, "000");
        // By rule 2 it would be body 2 at once, by rule 1 behind body 0.
        check.answers("Terms, the exit rule, 0 at first", 0, x::release);
        check.answers("Terms, the exit rule, 0 at first", 1, x::release);
    }

    // ---- Promise 2

    private static void beginTakesOneToFiveLanes() {
        for (int lanes = 1; lanes <= 5; lanes++) {
            int count = lanes;
            PaintSequencer x = new PaintSequencer();
            check.answers("2 lanes 1 to 5", 0, () -> x.begin(count, 1, 1));
            for (int lane = 0; lane < lanes; lane++) {
                int due = lane;
                check.answers("2 each lane is there", due, () -> x.arrive(0));
                check.answers("2 each lane is there", 1, () -> x.inLane(due));
            }
            check.fails("2 and no more", STATE, () -> x.arrive(0));
            check.fails("2 and no more", INDEX, () -> x.inLane(count));
        }
    }

    private static void beginTakesADepthOfOneToSix() {
        for (int depth = 1; depth <= 6; depth++) {
            PaintSequencer x = Scene.begun(5, depth, 1);
            times(depth, () -> x.arriveIn(0, 4));
            check.answers("2 depth 1 to 6", depth, () -> x.inLane(4));
            check.fails("2 depth 1 to 6", STATE, () -> x.arriveIn(0, 4));
        }
    }

    private static void beginTakesAStoreForOneToSix() {
        for (int store = 1; store <= 6; store++) {
            PaintSequencer x = Scene.begun(2, 6, store);
            times(7, () -> x.arrive(0));
            times(store, x::release);
            check.answers("2 store 1 to 6", store, x::stored);
            check.fails("2 store 1 to 6", STATE, x::release);
        }
    }

    private static void beginReturnsHowManyHadCome() {
        check.answers("2 none had come", 0, () -> new PaintSequencer().begin(1, 1, 1));
        check.answers("2 wherever they are", 7, () -> Scene.busy().begin(1, 1, 1));
        check.answers("2 all 99", 99, () -> Scene.spent().begin(5, 6, 6));
        PaintSequencer x = Scene.busy();
        x.begin(5, 6, 6);
        check.answers("2 none since", 0, () -> x.begin(5, 6, 6));
        x.arrive(0);
        check.answers("2 one since", 1, () -> x.begin(1, 1, 1));
    }

    private static void beginIsAsNewButForTheRules() {
        for (int rules = 0; rules < 9; rules++) {
            int entry = rules / 3;
            int exit = rules % 3;
            Supplier<PaintSequencer> made =
                () -> Scene.withRules(Scene.begun(3, 4, 3), entry, exit);
            Twins.alike(check, "2 as new",
                () -> Scene.withRules(new PaintSequencer(), entry, exit), made);
            Twins.alike(check, "2 anew behind busy", made,
                () -> anew(Scene.withRules(Scene.busy(), entry, exit)));
            Twins.alike(check, "2 anew behind packed", made,
                () -> anew(Scene.withRules(Scene.packed(), entry, exit)));
            Twins.alike(check, "2 anew behind drained", made,
                () -> anew(Scene.withRules(Scene.drained(), entry, exit)));
        }
    }

    private static PaintSequencer anew(PaintSequencer x) {
        x.begin(3, 4, 3);
        return x;
    }

    private static void beginForgetsLanesThatWereLeftOut() {
        PaintSequencer x = Scene.filled(6, 1, "0", "1", "2", "3", "4");
        x.begin(1, 6, 1);
        check.answers("2 no body counts", 0, x::fewestChanges);
        x.begin(5, 6, 1);
        check.answers("2 without bodies", 0, () -> x.inLane(4));
        check.answers("2 without bodies", 0, () -> x.block(4));
        check.answers("2 without bodies", 0, x::fewestByAll);
    }

    private static void beginLetsNinetyNineComeAgain() {
        PaintSequencer x = Scene.spent();
        x.begin(1, 1, 1);
        check.answers("2 numbers from 0 again", 0, () -> x.arriveIn(3, 0));
        check.answers("2 its colour", 3, () -> x.colour(0));
        check.fails("2 the others are gone", INDEX, () -> x.colour(1));
    }

    // ---- Promise 3

    private static void setRulesTakesAllNine() {
        for (int entry = 0; entry < 3; entry++) {
            for (int exit = 0; exit < 3; exit++) {
                entryRuleTold(entry, exit);
                exitRuleTold(entry, exit);
            }
        }
    }

    private static void entryRuleTold(int entry, int exit) {
        PaintSequencer x = Scene.filled(6, 6, "", "11", "");
        x.arriveIn(0, 0);
        x.setRules(entry, exit);
        int due = new int[] {2, 0, 1}[entry];
        check.answers("3 the entry rule " + entry + " with " + exit, due, () -> x.arrive(0));
    }

    private static void exitRuleTold(int entry, int exit) {
        PaintSequencer x = Scene.filled(6, 6, "03", "1144", "0");
        x.setRules(entry, exit);
        int due = new int[] {0, 0, 2}[exit];
        check.answers("3 the exit rule " + exit + " with " + entry, due, x::release);
        PaintSequencer y = Scene.filled(6, 6, "03", "1144", "0");
        y.releaseFrom(0);
        y.setRules(entry, exit);
        int next = new int[] {1, 6, 6}[exit];
        check.answers("3 the exit rule " + exit + " with " + entry, next, y::release);
    }

    private static void setRulesMovesNothing() {
        PaintSequencer x = Scene.busy();
        String before = Twins.everything(x);
        x.setRules(0, 0);
        check.same("3 nothing moves", before, Twins.everything(x));
    }

    private static void setRulesTheLatestCount() {
        PaintSequencer x = new PaintSequencer();
        x.setRules(1, 1);
        x.setRules(2, 0);
        x.arriveIn(0, 0);
        check.answers("3 the latest entry rule", 1, () -> x.arrive(0));
        x.arriveIn(1, 0);
        x.arriveIn(0, 2);
        x.release();
        check.answers("3 the latest exit rule", 1, x::release);
        check.answers("3 the latest exit rule", 2, x::release);
    }
}
