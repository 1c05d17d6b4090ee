import java.util.function.Supplier;
import java.util.function.ToLongFunction;

/**
 * Each "throws" sentence of the document, at the first value outside on each side and far outside:
 * what is thrown, of several exceptions which one, and that nothing has changed.
 */
public final class RefusedTest {
    private static final Class<IllegalArgumentException> ARGUMENT = IllegalArgumentException.class;
    private static final Class<IndexOutOfBoundsException> INDEX = IndexOutOfBoundsException.class;
    private static final Class<IllegalStateException> STATE = IllegalStateException.class;
    private static final int LEAST = Integer.MIN_VALUE;
    private static final int MOST = Integer.MAX_VALUE;

    private static final Check check = new Check("RefusedTest");

    public static void main(String[] args) {
        beginLanesOutOfRange();
        beginDepthOutOfRange();
        beginStoreOutOfRange();
        setRulesEntryOutOfRange();
        setRulesExitOutOfRange();
        arriveColourOutOfRange();
        arriveNoLaneHasRoom();
        arriveThereWere99();
        arriveInColourOutOfRange();
        arriveInNoSuchLane();
        arriveInTheLaneHasNoRoom();
        arriveInThereWere99();
        releaseAllLanesAreEmpty();
        releaseTheStoreIsFull();
        releaseFromNoSuchLane();
        releaseFromItIsEmpty();
        releaseFromTheStoreIsFull();
        releaseBestAllLanesAreEmpty();
        releaseBestTheStoreIsFull();
        releaseBestMoreThan12();
        sendBackNoSuchBody();
        sendBackNotInTheStore();
        reenterNoSuchBody();
        reenterNotInRepair();
        reenterNoLaneHasRoom();
        assembleTheStoreIsEmpty();
        colourNoSuchBody();
        whereNoSuchBody();
        inLaneNoSuchLane();
        bodyAtNoSuchLane();
        bodyAtNoSuchPlace();
        blockNoSuchLane();
        assembledAtNoSuchPosition();
        latenessNoSuchBody();
        latenessNotAssembled();
        fewestChangesMoreThan12();
        fewestByAllMoreThan8();
        check.end();
    }

    private static void refused(String told, Class<? extends RuntimeException> due,
            Supplier<PaintSequencer> made, ToLongFunction<PaintSequencer> call) {
        Twins.refused(check, told, due, made, call);
    }

    private static void beginRefused(String told, int lanes, int depth, int store) {
        String row = told + " begin(" + lanes + ", " + depth + ", " + store + ")";
        refused(row, ARGUMENT, Scene::busy, x -> x.begin(lanes, depth, store));
    }

    private static void beginLanesOutOfRange() {
        for (int wrong : new int[] {0, 6, -1, LEAST, MOST}) {
            beginRefused("2 lanes: 1 to 5", wrong, 2, 2);
        }
    }

    private static void beginDepthOutOfRange() {
        for (int wrong : new int[] {0, 7, -1, LEAST, MOST}) {
            beginRefused("2 depth: 1 to 6", 2, wrong, 2);
        }
    }

    private static void beginStoreOutOfRange() {
        for (int wrong : new int[] {0, 7, -1, LEAST, MOST}) {
            beginRefused("2 store: 1 to 6", 2, 2, wrong);
        }
        beginRefused("2 all out of range", 0, 7, 0);
        refused("2 a new object", ARGUMENT, PaintSequencer::new, x -> x.begin(1, 1, 7));
    }

    private static void setRulesRefused(String told, int entry, int exit) {
        ToLongFunction<PaintSequencer> call = x -> {
            x.setRules(entry, exit);
            return 0;
        };
        String row = told + " setRules(" + entry + ", " + exit + ")";
        refused(row, ARGUMENT, Scene::busy, call);
        refused(row + " at first", ARGUMENT, PaintSequencer::new, call);
    }

    private static void setRulesEntryOutOfRange() {
        for (int wrong : new int[] {-1, 3, LEAST, MOST}) {
            setRulesRefused("3 entry: 0 to 2", wrong, 2);
        }
    }

    private static void setRulesExitOutOfRange() {
        for (int wrong : new int[] {-1, 3, LEAST, MOST}) {
            setRulesRefused("3 exit: 0 to 2", 1, wrong);
        }
        setRulesRefused("3 both out of range", 3, -1);
    }

    private static void arriveColourOutOfRange() {
        for (int wrong : new int[] {-1, 5, LEAST, MOST}) {
            refused("4 colour: 0 to 4", ARGUMENT, Scene::busy, x -> x.arrive(wrong));
            refused("4 the colour ahead of the room", ARGUMENT, Scene::packed,
                x -> x.arrive(wrong));
            refused("4 the colour ahead of 99", ARGUMENT, Scene::spent, x -> x.arrive(wrong));
        }
    }

    private static void arriveNoLaneHasRoom() {
        for (int entry = 0; entry < 3; entry++) {
            int rule = entry;
            // Colour 4 is that of a last body, colour 0 that of none.
            refused("4 no lane has room", STATE,
                () -> Scene.withRules(Scene.packed(), rule, 0), x -> x.arrive(4));
            refused("4 no lane has room", STATE,
                () -> Scene.withRules(Scene.packed(), rule, 0), x -> x.arrive(0));
        }
        refused("4 no lane has room, depth 1", STATE, () -> Scene.filled(1, 1, "0"),
            x -> x.arrive(0));
    }

    private static void arriveThereWere99() {
        for (int entry = 0; entry < 3; entry++) {
            int rule = entry;
            refused("4 there were 99 bodies", STATE,
                () -> Scene.withRules(Scene.spent(), rule, 0), x -> x.arrive(3));
        }
    }

    private static void arriveInColourOutOfRange() {
        for (int wrong : new int[] {-1, 5, LEAST, MOST}) {
            refused("5 colour: 0 to 4", ARGUMENT, Scene::busy, x -> x.arriveIn(wrong, 1));
            refused("5 the colour ahead of the lane", ARGUMENT, Scene::busy,
                x -> x.arriveIn(wrong, 3));
            refused("5 the colour ahead of the room", ARGUMENT, Scene::packed,
                x -> x.arriveIn(wrong, 1));
            refused("5 the colour ahead of 99", ARGUMENT, Scene::spent, x -> x.arriveIn(wrong, 1));
        }
    }

    private static void arriveInNoSuchLane() {
        for (int wrong : new int[] {-1, 3, 4, 5, LEAST, MOST}) {
            refused("5 there is no such lane", INDEX, Scene::busy, x -> x.arriveIn(0, wrong));
        }
        refused("5 the lane ahead of the room", INDEX, Scene::packed, x -> x.arriveIn(0, 2));
        refused("5 the lane ahead of 99", INDEX, Scene::spent, x -> x.arriveIn(0, 5));
        refused("5 the lane ahead of 99", INDEX, Scene::spent, x -> x.arriveIn(0, -1));
    }

    private static void arriveInTheLaneHasNoRoom() {
        refused("5 the lane has no room", STATE, () -> Scene.filled(3, 3, "01", "234", ""),
            x -> x.arriveIn(4, 1));
        refused("5 no lane has room", STATE, Scene::packed, x -> x.arriveIn(4, 0));
        refused("5 depth 6", STATE, () -> Scene.filled(6, 6, "000000", ""), x -> x.arriveIn(0, 0));
    }

    private static void arriveInThereWere99() {
        refused("5 there were 99 bodies", STATE, Scene::spent, x -> x.arriveIn(0, 0));
        refused("5 there were 99 bodies", STATE, Scene::spent, x -> x.arriveIn(4, 4));
    }

    private static void releaseAllLanesAreEmpty() {
        for (int exit = 0; exit < 3; exit++) {
            int rule = exit;
            refused("6 all lanes are empty", STATE,
                () -> Scene.withRules(Scene.bare(), 1, rule), x -> x.release());
            refused("6 all lanes are empty at first", STATE,
                () -> Scene.withRules(new PaintSequencer(), 1, rule), x -> x.release());
            refused("6 all lanes are empty, the store full", STATE,
                () -> Scene.withRules(Scene.drained(), 1, rule), x -> x.release());
        }
    }

    private static void releaseTheStoreIsFull() {
        for (int exit = 0; exit < 3; exit++) {
            int rule = exit;
            refused("6 the store is full", STATE,
                () -> Scene.withRules(Scene.packed(), 1, rule), x -> x.release());
        }
    }

    private static void releaseFromNoSuchLane() {
        for (int wrong : new int[] {-1, 3, 4, 5, LEAST, MOST}) {
            refused("7 there is no such lane", INDEX, Scene::busy, x -> x.releaseFrom(wrong));
        }
        for (int wrong : new int[] {-1, 2}) {
            refused("7 the lane ahead of the store", INDEX, Scene::packed,
                x -> x.releaseFrom(wrong));
            refused("7 the lane ahead of the empty", INDEX, Scene::bare, x -> x.releaseFrom(wrong));
            refused("7 the lane ahead of both", INDEX, Scene::drained, x -> x.releaseFrom(wrong));
        }
    }

    private static void releaseFromItIsEmpty() {
        refused("7 it is empty, others are not", STATE, () -> Scene.filled(3, 3, "0", "", "1"),
            x -> x.releaseFrom(1));
        refused("7 all are empty", STATE, Scene::bare, x -> x.releaseFrom(0));
        refused("7 it is empty, the store full", STATE, Scene::drained, x -> x.releaseFrom(1));
    }

    private static void releaseFromTheStoreIsFull() {
        refused("7 the store is full", STATE, Scene::packed, x -> x.releaseFrom(0));
        refused("7 the store is full", STATE, Scene::packed, x -> x.releaseFrom(1));
    }

    private static void releaseBestAllLanesAreEmpty() {
        refused("8 all lanes are empty", STATE, Scene::bare, x -> x.releaseBest());
        refused("8 all lanes are empty at first", STATE, PaintSequencer::new, x -> x.releaseBest());
        refused("8 all lanes are empty, the store full", STATE, Scene::drained,
            x -> x.releaseBest());
    }

    private static void releaseBestTheStoreIsFull() {
        refused("8 the store is full", STATE, Scene::packed, x -> x.releaseBest());
    }

    private static void releaseBestMoreThan12() {
        refused("8 thirteen", STATE, Scene::thirteen, x -> x.releaseBest());
        refused("8 thirty", STATE,
            () -> Scene.filled(6, 6, "012340", "123401", "234012", "340123", "401234"),
            x -> x.releaseBest());
        refused("8 thirteen, the store full", STATE, () -> {
            PaintSequencer x = Scene.thirteen();
            x.arrive(1);
            x.release();
            return x;
        }, x -> x.releaseBest());
    }

    private static void sendBackNoSuchBody() {
        for (int wrong : new int[] {-1, 7, 98, 99, 100, LEAST, MOST}) {
            refused("9 there is no such body", INDEX, Scene::busy, x -> x.sendBack(wrong));
        }
        refused("9 there is no body at first", INDEX, PaintSequencer::new, x -> x.sendBack(0));
        refused("9 there is no body 99", INDEX, Scene::spent, x -> x.sendBack(99));
    }

    private static void sendBackNotInTheStore() {
        refused("9 it is in a lane, the head", STATE, Scene::busy, x -> x.sendBack(2));
        refused("9 it is in a lane, the last", STATE, Scene::busy, x -> x.sendBack(6));
        refused("9 it is in repair", STATE, Scene::busy, x -> x.sendBack(1));
        refused("9 it is assembled", STATE, Scene::busy, x -> x.sendBack(0));
    }

    private static void reenterNoSuchBody() {
        for (int wrong : new int[] {-1, 7, 98, 99, 100, LEAST, MOST}) {
            refused("10 there is no such body", INDEX, Scene::busy, x -> x.reenter(wrong));
        }
        refused("10 there is no body at first", INDEX, PaintSequencer::new, x -> x.reenter(0));
        refused("10 the body ahead of the room", INDEX, Scene::packed, x -> x.reenter(6));
        refused("10 the body ahead of the room", INDEX, Scene::packed, x -> x.reenter(-1));
    }

    private static void reenterNotInRepair() {
        refused("10 it is in a lane", STATE, Scene::busy, x -> x.reenter(2));
        refused("10 it is in the store", STATE, Scene::busy, x -> x.reenter(4));
        refused("10 it is assembled", STATE, Scene::busy, x -> x.reenter(0));
        refused("10 it is in a lane, none has room", STATE, Scene::packed, x -> x.reenter(3));
    }

    private static void reenterNoLaneHasRoom() {
        for (int entry = 0; entry < 3; entry++) {
            int rule = entry;
            refused("10 no lane has room", STATE,
                () -> Scene.withRules(Scene.packed(), rule, 0), x -> x.reenter(0));
        }
        // The lanes end in the colours 4 and 4, and the body in repair has this colour too.
        refused("10 no lane has room, but the colour", STATE, () -> {
            PaintSequencer x = Scene.filled(1, 2, "4", "4");
            x.release();
            x.sendBack(0);
            x.arriveIn(4, 0);
            return Scene.withRules(x, 1, 0);
        }, x -> x.reenter(0));
    }

    private static void assembleTheStoreIsEmpty() {
        refused("11 the store is empty", STATE, Scene::bare, x -> x.assemble());
        refused("11 the store is empty at first", STATE, PaintSequencer::new, x -> x.assemble());
        refused("11 the store is empty, a lane is not", STATE, () -> Scene.filled(3, 3, "01"),
            x -> x.assemble());
    }

    private static void colourNoSuchBody() {
        for (int wrong : new int[] {-1, 7, 98, 99, 100, LEAST, MOST}) {
            refused("13 there is no such body", INDEX, Scene::busy, x -> x.colour(wrong));
        }
        refused("13 there is no body at first", INDEX, PaintSequencer::new, x -> x.colour(0));
        refused("13 there is no body 99", INDEX, Scene::spent, x -> x.colour(99));
    }

    private static void whereNoSuchBody() {
        for (int wrong : new int[] {-1, 7, 98, 99, 100, LEAST, MOST}) {
            refused("14 there is no such body", INDEX, Scene::busy, x -> x.where(wrong));
        }
        refused("14 there is no body at first", INDEX, PaintSequencer::new, x -> x.where(0));
        refused("14 there is no body 99", INDEX, Scene::spent, x -> x.where(99));
    }

    private static void inLaneNoSuchLane() {
        for (int wrong : new int[] {-1, 3, 4, 5, LEAST, MOST}) {
            refused("15 there is no such lane", INDEX, Scene::busy, x -> x.inLane(wrong));
        }
        refused("15 there are five lanes", INDEX, Scene::spent, x -> x.inLane(5));
    }

    private static void bodyAtNoSuchLane() {
        for (int wrong : new int[] {-1, 3, 4, 5, LEAST, MOST}) {
            refused("16 there is no such lane", INDEX, Scene::busy, x -> x.bodyAt(wrong, 0));
        }
        refused("16 there are five lanes", INDEX, Scene::spent, x -> x.bodyAt(5, 0));
        refused("16 neither lane nor place", INDEX, Scene::busy, x -> x.bodyAt(-1, -1));
    }

    private static void bodyAtNoSuchPlace() {
        // Lane 0 has two of three places taken, and a body has left each lane but lane 1.
        for (int wrong : new int[] {-1, 2, 3, 6, LEAST, MOST}) {
            refused("16 it has no such place", INDEX, Scene::busy, x -> x.bodyAt(0, wrong));
        }
        refused("16 it is empty", INDEX, Scene::bare, x -> x.bodyAt(0, 0));
        refused("16 it is full", INDEX, Scene::packed, x -> x.bodyAt(0, 2));
        refused("16 all six are taken", INDEX, () -> Scene.filled(6, 6, "012340"),
            x -> x.bodyAt(0, 6));
    }

    private static void blockNoSuchLane() {
        for (int wrong : new int[] {-1, 3, 4, 5, LEAST, MOST}) {
            refused("17 there is no such lane", INDEX, Scene::busy, x -> x.block(wrong));
        }
        refused("17 there are five lanes", INDEX, Scene::spent, x -> x.block(5));
    }

    private static void assembledAtNoSuchPosition() {
        for (int wrong : new int[] {-1, 1, 2, 98, 99, LEAST, MOST}) {
            refused("21 there is no such position so far", INDEX, Scene::busy,
                x -> x.assembledAt(wrong));
        }
        refused("21 none at first", INDEX, PaintSequencer::new, x -> x.assembledAt(0));
        refused("21 none anew", INDEX, () -> {
            PaintSequencer x = Scene.busy();
            x.begin(3, 3, 3);
            return x;
        }, x -> x.assembledAt(0));
    }

    private static void latenessNoSuchBody() {
        for (int wrong : new int[] {-1, 7, 98, 99, 100, LEAST, MOST}) {
            refused("22 there is no such body", INDEX, Scene::busy, x -> x.lateness(wrong));
        }
        refused("22 there is no body at first", INDEX, PaintSequencer::new, x -> x.lateness(0));
        refused("22 there is no body 99", INDEX, Scene::spent, x -> x.lateness(99));
    }

    private static void latenessNotAssembled() {
        refused("22 it is in a lane", STATE, Scene::busy, x -> x.lateness(2));
        refused("22 it is in the store", STATE, Scene::busy, x -> x.lateness(4));
        refused("22 it is in repair", STATE, Scene::busy, x -> x.lateness(1));
    }

    private static void fewestChangesMoreThan12() {
        refused("24 thirteen", STATE, Scene::thirteen, x -> x.fewestChanges());
        refused("24 thirty", STATE,
            () -> Scene.filled(6, 6, "000000", "000000", "000000", "000000", "000000"),
            x -> x.fewestChanges());
    }

    private static void fewestByAllMoreThan8() {
        refused("25 nine", STATE, Scene::nine, x -> x.fewestByAll());
        refused("25 thirteen", STATE, Scene::thirteen, x -> x.fewestByAll());
    }
}
