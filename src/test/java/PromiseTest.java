/** One test or more for each promise of the document, named by its number. */
public final class PromiseTest {
    private static final Class<IllegalArgumentException> ARGUMENT = IllegalArgumentException.class;
    private static final Class<IndexOutOfBoundsException> INDEX = IndexOutOfBoundsException.class;
    private static final Class<IllegalStateException> STATE = IllegalStateException.class;
    private static final int[] FAR = Scene.FAR;

    private static final Check check = new Check("PromiseTest");

    public static void main(String[] args) {
        promise1NewObject();
        promise2Begin();
        promise2RulesStay();
        promise2NothingChangesWhenItThrows();
        promise3SetRules();
        promise4ArriveRule0();
        promise4ArriveRule1();
        promise4ArriveRule2();
        promise4And5NinetyNineBodies();
        promise5ArriveIn();
        promise6ReleaseRule0();
        promise6ReleaseRule1();
        promise6ReleaseRule2();
        promise7ReleaseFrom();
        promise8ReleaseBest();
        promise8ReleaseBestEdges();
        promise9SendBack();
        promise10Reenter();
        promise11Assemble();
        promise12Bodies();
        promise13Colour();
        promise14Where();
        promise15InLane();
        promise16BodyAt();
        promise17Block();
        promise18Stored();
        promise19Changes();
        promise20Released();
        promise21AssembledAt();
        promise22Lateness();
        promise23WorstLateness();
        promise24FewestChanges();
        promise25FewestByAll();
        check.end();
    }

    private static void promise1NewObject() {
        PaintSequencer x = new PaintSequencer();
        check.answers("1 bodies", 0, x::bodies);
        check.answers("1 stored", 0, x::stored);
        check.answers("1 changes", 0, x::changes);
        check.answers("1 released", 0, x::released);
        check.answers("1 worstLateness", 0, x::worstLateness);
        check.answers("1 fewestChanges", 0, x::fewestChanges);
        check.answers("1 fewestByAll", 0, x::fewestByAll);
        for (int lane = 0; lane < 3; lane++) {
            int told = lane;
            check.answers("1 inLane", 0, () -> x.inLane(told));
            check.answers("1 block", 0, () -> x.block(told));
            check.fails("1 bodyAt", INDEX, () -> x.bodyAt(told, 0));
        }
        check.fails("1 inLane(3)", INDEX, () -> x.inLane(3));
        check.fails("1 colour(0)", INDEX, () -> x.colour(0));
        check.fails("1 assembledAt(0)", INDEX, () -> x.assembledAt(0));
        // Twelve bodies go in by the entry rule 0, and the store takes three.
        for (int body = 0; body < 12; body++) {
            check.answers("1 arrive", body % 3, () -> x.arrive(4));
        }
        check.fails("1 arrive, the lanes full", STATE, () -> x.arrive(4));
        for (int body = 0; body < 3; body++) {
            check.answers("1 release", body, x::release);
        }
        check.fails("1 release, the store full", STATE, x::release);
    }

    private static void promise2Begin() {
        PaintSequencer x = Scene.filled(2, 4, "01", "23", "4");
        x.releaseFrom(2);
        x.releaseFrom(0);
        x.assemble();
        x.releaseFrom(0);
        x.sendBack(1);
        check.answers("2 begin(5, 6, 6)", 5, () -> x.begin(5, 6, 6));
        check.answers("2 bodies", 0, x::bodies);
        check.answers("2 stored", 0, x::stored);
        check.answers("2 changes", 0, x::changes);
        check.answers("2 released", 0, x::released);
        check.answers("2 worstLateness", 0, x::worstLateness);
        check.fails("2 where(0)", INDEX, () -> x.where(0));
        check.fails("2 assembledAt(0)", INDEX, () -> x.assembledAt(0));
        for (int lane = 0; lane < 5; lane++) {
            int told = lane;
            check.answers("2 inLane", 0, () -> x.inLane(told));
        }
        check.fails("2 inLane(5)", INDEX, () -> x.inLane(5));
        for (int body = 0; body < 30; body++) {
            check.answers("2 arrive", body % 5, () -> x.arrive(0));
        }
        check.fails("2 arrive, the lanes full", STATE, () -> x.arrive(0));
        for (int body = 0; body < 6; body++) {
            check.answers("2 release", body, x::release);
        }
        check.answers("2 changes behind the first colour", 0, x::changes);
        check.fails("2 release, the store full", STATE, x::release);
        check.answers("2 begin(1, 1, 1)", 30, () -> x.begin(1, 1, 1));
        check.answers("2 begin again", 0, () -> x.begin(1, 1, 1));
        check.fails("2 inLane(1)", INDEX, () -> x.inLane(1));
        check.answers("2 arrive", 0, () -> x.arrive(1));
        check.fails("2 arrive, the lane full", STATE, () -> x.arrive(1));
    }

    private static void promise2RulesStay() {
        PaintSequencer x = Scene.begun(3, 4, 3);
        x.setRules(2, 1);
        x.arrive(0);
        x.arrive(1);
        x.release();
        x.begin(3, 4, 6);
        check.answers("2 rule 2 begins at lane 0", 0, () -> x.arrive(2));
        x.arriveIn(1, 1);
        x.arriveIn(2, 1);
        check.answers("2 rule 2 stays", 2, () -> x.arrive(2));
        // Colour 0 was released latest ahead of begin, and nothing since.
        x.arriveIn(0, 2);
        check.answers("2 release", 0, x::release);
        check.answers("2 exit rule 1 stays", 3, x::release);
    }

    private static void promise2NothingChangesWhenItThrows() {
        PaintSequencer x = Scene.filled(2, 2, "01", "2");
        int[][] wrong = {{0, 1, 1}, {6, 1, 1}, {1, 0, 1}, {1, 7, 1}, {1, 1, 0}, {1, 1, 7},
            {FAR[0], 1, 1}, {FAR[1], 1, 1}, {1, FAR[0], 1}, {1, FAR[1], 1}, {1, 1, FAR[0]},
            {1, 1, FAR[1]}};
        for (int[] it : wrong) {
            check.fails("2 begin out of range", ARGUMENT, () -> x.begin(it[0], it[1], it[2]));
        }
        check.answers("2 bodies", 3, x::bodies);
        check.answers("2 inLane(1)", 1, () -> x.inLane(1));
        check.fails("2 the depth stays", STATE, () -> x.arriveIn(0, 0));
        x.release();
        x.release();
        check.fails("2 the store stays", STATE, x::release);
    }

    private static void promise3SetRules() {
        PaintSequencer x = Scene.begun(3, 4, 6);
        x.setRules(2, 1);
        int[][] wrong = {{-1, 0}, {3, 0}, {0, -1}, {0, 3}, {FAR[0], 0}, {FAR[1], 0}, {0, FAR[0]},
            {0, FAR[1]}, {-1, 3}};
        for (int[] it : wrong) {
            check.fails("3 setRules out of range", ARGUMENT, () -> set(x, it[0], it[1]));
        }
        x.arriveIn(0, 0);
        check.answers("3 entry stays 2", 1, () -> x.arrive(1));
        x.arriveIn(0, 2);
        check.answers("3 release", 0, x::release);
        check.answers("3 exit stays 1", 2, x::release);
        for (int entry = 0; entry < 3; entry++) {
            for (int exit = 0; exit < 3; exit++) {
                int told = entry;
                int also = exit;
                check.answers("3 setRules", 0, () -> set(x, told, also));
            }
        }
    }

    private static long set(PaintSequencer x, int entry, int exit) {
        x.setRules(entry, exit);
        return 0;
    }

    private static void promise4ArriveRule0() {
        PaintSequencer x = Scene.begun(3, 2, 6);
        for (int wrong : new int[] {-1, 5, FAR[0], FAR[1]}) {
            check.fails("4 arrive out of range", ARGUMENT, () -> x.arrive(wrong));
        }
        x.arriveIn(0, 0);
        check.answers("4 arrive by rule 0", 1, () -> x.arrive(0));
        check.answers("4 arrive by rule 0", 2, () -> x.arrive(4));
        check.answers("4 of several the lowest", 0, () -> x.arrive(4));
        check.answers("4 arrive by rule 0", 1, () -> x.arrive(0));
        check.answers("4 arrive by rule 0", 2, () -> x.arrive(0));
        check.fails("4 no lane has room", STATE, () -> x.arrive(0));
        check.fails("4 first the colour", ARGUMENT, () -> x.arrive(5));
        check.answers("4 bodies", 6, x::bodies);
        check.answers("4 colour(3)", 4, () -> x.colour(3));
        check.answers("4 bodyAt(0, 1)", 3, () -> x.bodyAt(0, 1));
        x.releaseFrom(1);
        check.answers("4 room again", 1, () -> x.arrive(0));
    }

    private static void promise4ArriveRule1() {
        PaintSequencer x = Scene.begun(4, 3, 6);
        x.setRules(1, 0);
        check.answers("4 rule 1, all empty", 0, () -> x.arrive(0));
        check.answers("4 rule 1, the same colour", 0, () -> x.arrive(0));
        check.answers("4 rule 1, another colour", 1, () -> x.arrive(1));
        x.arriveIn(1, 0);
        check.answers("4 rule 1, the lowest is full", 1, () -> x.arrive(1));
        x.arriveIn(1, 3);
        check.answers("4 rule 1, the lowest of several", 1, () -> x.arrive(1));
        check.answers("4 rule 1, the next that has room", 3, () -> x.arrive(1));
        // Lane 3 begins with colour 1 but ends in colour 2.
        x.arriveIn(2, 3);
        check.answers("4 rule 1, the last counts", 2, () -> x.arrive(1));
        x.releaseFrom(2);
        check.answers("4 rule 1, an emptied lane has no last", 2, () -> x.arrive(0));
        x.releaseFrom(0);
        x.releaseFrom(0);
        x.releaseFrom(0);
        check.answers("4 rule 1, as by rule 0", 0, () -> x.arrive(3));
    }

    private static void promise4ArriveRule2() {
        PaintSequencer x = Scene.begun(3, 3, 6);
        x.setRules(2, 0);
        check.answers("4 rule 2, lane 0 first", 0, () -> x.arrive(0));
        check.answers("4 rule 2", 1, () -> x.arrive(0));
        check.answers("4 rule 2", 2, () -> x.arrive(0));
        check.answers("4 rule 2, lane 0 behind the last", 0, () -> x.arrive(0));
        check.answers("4 a told lane", 4, () -> x.arriveIn(0, 2));
        check.answers("4 rule 2 behind a told lane", 0, () -> x.arrive(0));
        x.setRules(0, 0);
        check.answers("4 by rule 0", 1, () -> x.arrive(0));
        x.setRules(2, 0);
        check.answers("4 rule 2 behind rule 0", 2, () -> x.arrive(0));
        check.answers("4 rule 2, lane 0 is full", 1, () -> x.arrive(0));
        check.fails("4 rule 2, all full", STATE, () -> x.arrive(0));
        x.releaseFrom(1);
        x.releaseFrom(0);
        x.releaseFrom(0);
        check.answers("4 rule 2, the next that has room", 0, () -> x.arrive(0));
        check.answers("4 rule 2 goes on", 1, () -> x.arrive(0));
        check.answers("4 rule 2, over the full lanes", 0, () -> x.arrive(0));
        PaintSequencer y = Scene.filled(3, 6, "000", "00", "", "0");
        y.setRules(2, 0);
        check.answers("4 rule 2, the next behind, not the emptiest", 1, () -> y.arrive(0));
    }

    private static void promise4And5NinetyNineBodies() {
        PaintSequencer x = Scene.begun(1, 1, 1);
        for (int body = 0; body < 99; body++) {
            int due = body;
            if (body % 2 == 0) {
                check.answers("4 arrive", 0, () -> x.arrive(due % 5));
            } else {
                check.answers("5 arriveIn", due, () -> x.arriveIn(due % 5, 0));
            }
            check.answers("6 release", due, x::release);
            check.answers("11 assemble", due, x::assemble);
        }
        check.fails("4 there were 99", STATE, () -> x.arrive(0));
        check.fails("5 there were 99", STATE, () -> x.arriveIn(0, 0));
        check.fails("4 the colour first", ARGUMENT, () -> x.arrive(-1));
        check.fails("5 the lane first", INDEX, () -> x.arriveIn(0, 1));
        check.answers("12 bodies", 99, x::bodies);
        check.answers("13 colour(98)", 3, () -> x.colour(98));
        check.fails("13 colour(99)", INDEX, () -> x.colour(99));
        check.answers("19 changes", 98, x::changes);
        check.answers("21 assembledAt(98)", 98, () -> x.assembledAt(98));
        check.fails("21 assembledAt(99)", INDEX, () -> x.assembledAt(99));
        check.answers("2 begin", 99, () -> x.begin(1, 1, 1));
        check.answers("4 arrive again", 0, () -> x.arrive(0));
    }

    private static void promise5ArriveIn() {
        PaintSequencer x = Scene.begun(2, 2, 6);
        check.answers("5 arriveIn", 0, () -> x.arriveIn(4, 1));
        check.answers("5 arriveIn", 1, () -> x.arriveIn(0, 1));
        check.fails("5 the lane has no room", STATE, () -> x.arriveIn(0, 1));
        check.answers("5 arriveIn", 2, () -> x.arriveIn(1, 0));
        for (int wrong : new int[] {-1, 5, FAR[0], FAR[1]}) {
            check.fails("5 colour out of range", ARGUMENT, () -> x.arriveIn(wrong, 0));
            check.fails("5 the colour first", ARGUMENT, () -> x.arriveIn(wrong, 2));
            check.fails("5 the colour ahead of the room", ARGUMENT, () -> x.arriveIn(wrong, 1));
        }
        for (int wrong : new int[] {-1, 2, 5, FAR[0], FAR[1]}) {
            check.fails("5 no such lane", INDEX, () -> x.arriveIn(0, wrong));
        }
        check.answers("5 bodies", 3, x::bodies);
        check.answers("5 bodyAt(1, 0)", 0, () -> x.bodyAt(1, 0));
        check.answers("5 bodyAt(1, 1)", 1, () -> x.bodyAt(1, 1));
        check.answers("5 colour(0)", 4, () -> x.colour(0));
        check.answers("5 where(0)", 1, () -> x.where(0));
        x.setRules(2, 0);
        check.answers("5 a call that threw counts for nothing", 0, () -> x.arrive(0));
    }

    private static void promise6ReleaseRule0() {
        PaintSequencer x = Scene.begun(3, 3, 3);
        check.fails("6 all lanes are empty", STATE, x::release);
        x.arriveIn(0, 2);
        x.arriveIn(1, 1);
        x.arriveIn(0, 2);
        x.arriveIn(0, 0);
        check.answers("6 release by rule 0", 0, x::release);
        check.answers("6 release by rule 0", 1, x::release);
        check.answers("6 release by rule 0", 2, x::release);
        check.fails("6 the store is full", STATE, x::release);
        check.answers("6 stored", 3, x::stored);
        check.answers("6 inLane(0)", 1, () -> x.inLane(0));
        check.answers("6 released", 3, x::released);
        x.assemble();
        check.answers("6 release", 3, x::release);
        x.assemble();
        check.fails("6 all lanes are empty", STATE, x::release);
    }

    private static void promise6ReleaseRule1() {
        PaintSequencer x = Scene.filled(4, 6, "01", "12", "01", "3");
        x.setRules(0, 1);
        check.answers("6 rule 1, ahead of the first release", 0, x::release);
        check.answers("6 rule 1, the same colour", 4, x::release);
        check.answers("6 rule 1, as by rule 0", 1, x::release);
        check.answers("6 rule 1, the lowest of the same", 2, x::release);
        check.answers("6 rule 1, the same colour", 5, x::release);
        check.answers("6 rule 1, as by rule 0", 3, x::release);
        check.answers("6 changes", 2, x::changes);
    }

    private static void promise6ReleaseRule2() {
        PaintSequencer x = Scene.filled(4, 6, "0122", "113", "4413", "2");
        x.setRules(0, 2);
        check.answers("6 rule 2, the longest block, of two the lowest number", 4, x::release);
        check.answers("6 rule 2, the colour goes on", 5, x::release);
        check.answers("6 rule 2, the longest block", 7, x::release);
        // The colour of the body released latest counts more than any block.
        x.arriveIn(2, 3);
        x.arriveIn(2, 3);
        check.answers("6 rule 2, as by rule 1", 8, x::release);
        check.answers("6 rule 2, the longest block behind", 11, x::release);
        x.releaseFrom(0);
        x.assemble();
        check.answers("6 rule 2, two blocks of two", 12, () -> x.bodyAt(3, 0));
        PaintSequencer y = Scene.filled(6, 6, "001", "111", "110000");
        y.setRules(0, 2);
        check.answers("6 rule 2, only the first block of a lane", 3, y::release);
        check.answers("6 rule 2, of the same the lowest", 4, y::release);
        check.answers("6 rule 2, of the same the lowest", 5, y::release);
        check.answers("6 rule 2, of the same the lowest", 6, y::release);
        PaintSequencer z = Scene.begun(2, 2, 6);
        z.setRules(0, 2);
        check.fails("6 rule 2, all empty", STATE, z::release);
        z.arriveIn(1, 1);
        z.arriveIn(2, 0);
        z.arriveIn(2, 0);
        check.answers("6 rule 2, ahead of a lower number", 1, z::release);
    }

    private static void promise7ReleaseFrom() {
        PaintSequencer x = Scene.filled(3, 2, "012", "", "3");
        check.answers("7 releaseFrom(2)", 3, () -> x.releaseFrom(2));
        check.fails("7 it is empty", STATE, () -> x.releaseFrom(2));
        check.fails("7 it is empty", STATE, () -> x.releaseFrom(1));
        check.answers("7 releaseFrom(0)", 0, () -> x.releaseFrom(0));
        check.fails("7 the store is full", STATE, () -> x.releaseFrom(0));
        for (int wrong : new int[] {-1, 3, 5, FAR[0], FAR[1]}) {
            check.fails("7 no such lane", INDEX, () -> x.releaseFrom(wrong));
        }
        check.answers("7 stored", 2, x::stored);
        check.answers("7 bodyAt(0, 0)", 1, () -> x.bodyAt(0, 0));
        check.answers("7 changes", 1, x::changes);
        x.assemble();
        check.answers("7 room again", 1, () -> x.releaseFrom(0));
    }

    private static void promise8ReleaseBest() {
        // Taking 1 first lets all the 0 go together: 1 0 0 2; lane 0 first needs 0 1 0 2.
        PaintSequencer x = Scene.filled(3, 6, "02", "10");
        check.answers("8 fewest", 2, x::fewestChanges);
        check.answers("8 releaseBest", 2, x::releaseBest);
        check.answers("8 the lowest lane of two", 0, x::releaseBest);
        check.answers("8 releaseBest", 3, x::releaseBest);
        check.answers("8 releaseBest", 1, x::releaseBest);
        check.answers("8 changes", 2, x::changes);
        // The colour of the head may not go on: 2 first, and then 0 0 at once, is as good.
        PaintSequencer y = Scene.filled(3, 6, "10", "20", "0");
        y.releaseFrom(2);
        check.answers("8 fewest", 3, y::fewestChanges);
        check.answers("8 the lowest lane", 0, y::releaseBest);
        check.answers("8 releaseBest", 2, y::releaseBest);
        check.answers("8 releaseBest", 1, y::releaseBest);
        check.answers("8 releaseBest", 3, y::releaseBest);
        // The change to the first head counts: without it lane 0 would be as good.
        PaintSequencer z = Scene.filled(3, 6, "1", "2", "2");
        z.releaseFrom(1);
        check.answers("8 the change to the head", 2, z::releaseBest);
        check.answers("8 changes", 0, z::changes);
    }

    private static void promise8ReleaseBestEdges() {
        PaintSequencer x = Scene.begun(3, 6, 1);
        check.fails("8 all lanes are empty", STATE, x::releaseBest);
        Scene.fill(x, 0, "012340");
        Scene.fill(x, 2, "012340");
        check.answers("8 twelve bodies", 0, x::releaseBest);
        check.fails("8 the store is full", STATE, x::releaseBest);
        x.assemble();
        Scene.fill(x, 1, "11");
        check.fails("8 thirteen bodies", STATE, x::releaseBest);
        check.answers("8 released", 1, x::released);
        check.answers("8 stored", 0, x::stored);
        x.releaseFrom(0);
        x.assemble();
        check.answers("8 twelve again", 12, x::releaseBest);
    }

    private static void promise9SendBack() {
        PaintSequencer x = Scene.filled(4, 4, "0123");
        check.fails("9 in a lane", STATE, () -> x.sendBack(0));
        x.release();
        x.release();
        x.release();
        check.answers("9 sendBack(2)", 1, () -> x.sendBack(2));
        check.answers("9 sendBack(0)", 2, () -> x.sendBack(0));
        check.fails("9 in repair", STATE, () -> x.sendBack(0));
        check.answers("9 where(0)", 11, () -> x.where(0));
        check.answers("9 stored", 1, x::stored);
        check.answers("9 assemble", 1, x::assemble);
        check.fails("9 assembled", STATE, () -> x.sendBack(1));
        for (int wrong : new int[] {-1, 4, 98, 99, FAR[0], FAR[1]}) {
            check.fails("9 no such body", INDEX, () -> x.sendBack(wrong));
        }
        x.reenter(0);
        x.release();
        check.answers("9 counted anew", 2, () -> x.sendBack(3));
    }

    private static void promise10Reenter() {
        PaintSequencer x = Scene.filled(2, 4, "01", "23");
        x.release();
        check.fails("10 in the store", STATE, () -> x.reenter(0));
        check.fails("10 in a lane", STATE, () -> x.reenter(1));
        x.sendBack(0);
        check.answers("10 by rule 0", 0, () -> x.reenter(0));
        check.answers("10 behind the last", 0, () -> x.bodyAt(0, 1));
        check.answers("10 where(0)", 0, () -> x.where(0));
        check.answers("10 bodies", 4, x::bodies);
        x.releaseFrom(1);
        x.sendBack(2);
        x.arrive(4);
        check.fails("10 no lane has room", STATE, () -> x.reenter(2));
        check.answers("10 where(2)", 11, () -> x.where(2));
        for (int wrong : new int[] {-1, 5, 98, 99, FAR[0], FAR[1]}) {
            check.fails("10 no such body", INDEX, () -> x.reenter(wrong));
        }
        x.releaseFrom(0);
        x.assemble();
        check.fails("10 assembled", STATE, () -> x.reenter(1));
        check.answers("10 room again", 0, () -> x.reenter(2));

        PaintSequencer y = Scene.filled(4, 6, "00", "2", "12");
        y.setRules(1, 0);
        y.releaseFrom(2);
        y.sendBack(3);
        check.answers("10 by rule 1 as by rule 0", 1, () -> y.reenter(3));
        y.releaseFrom(0);
        y.sendBack(0);
        check.answers("10 by rule 1, its colour", 0, () -> y.reenter(0));
        y.setRules(2, 0);
        check.answers("10 counts for rule 2", 1, () -> y.arrive(0));
        y.releaseFrom(0);
        y.sendBack(1);
        check.answers("10 by rule 2", 2, () -> y.reenter(1));
    }

    private static void promise11Assemble() {
        PaintSequencer x = Scene.filled(3, 6, "012", "34");
        check.fails("11 the store is empty", STATE, x::assemble);
        x.releaseFrom(1);
        x.releaseFrom(1);
        x.releaseFrom(0);
        check.answers("11 the lowest number", 0, x::assemble);
        check.answers("11 where(0)", 12, () -> x.where(0));
        x.sendBack(3);
        check.answers("11 none in repair", 4, x::assemble);
        check.fails("11 the store is empty", STATE, x::assemble);
        x.reenter(3);
        x.releaseFrom(1);
        x.releaseFrom(0);
        check.answers("11 the lowest number", 1, x::assemble);
        check.answers("11 stored", 1, x::stored);
        check.answers("11 inLane(0)", 1, () -> x.inLane(0));
    }

    private static void promise12Bodies() {
        PaintSequencer x = Scene.begun(2, 2, 2);
        x.arrive(0);
        x.arriveIn(0, 0);
        check.answers("12 bodies", 2, x::bodies);
        x.release();
        x.assemble();
        x.release();
        x.sendBack(1);
        check.answers("12 bodies", 2, x::bodies);
        x.reenter(1);
        check.answers("12 bodies", 2, x::bodies);
    }

    private static void promise13Colour() {
        PaintSequencer x = Scene.filled(6, 6, "01234", "3");
        for (int body = 0; body < 5; body++) {
            int told = body;
            check.answers("13 colour", told, () -> x.colour(told));
        }
        x.releaseFrom(1);
        check.answers("13 colour in the store", 3, () -> x.colour(5));
        x.assemble();
        check.answers("13 colour assembled", 3, () -> x.colour(5));
        for (int wrong : new int[] {-1, 6, 98, 99, FAR[0], FAR[1]}) {
            check.fails("13 no such body", INDEX, () -> x.colour(wrong));
        }
    }

    private static void promise14Where() {
        PaintSequencer x = Scene.filled(2, 6, "0", "1", "2", "3", "4");
        for (int body = 0; body < 5; body++) {
            int told = body;
            check.answers("14 in a lane", told, () -> x.where(told));
        }
        x.release();
        check.answers("14 in the store", 10, () -> x.where(0));
        x.sendBack(0);
        check.answers("14 in repair", 11, () -> x.where(0));
        x.arriveIn(0, 0);
        x.reenter(0);
        check.answers("14 in a lane again", 0, () -> x.where(0));
        x.releaseFrom(4);
        x.assemble();
        check.answers("14 assembled", 12, () -> x.where(4));
        for (int wrong : new int[] {-1, 6, 98, 99, FAR[0], FAR[1]}) {
            check.fails("14 no such body", INDEX, () -> x.where(wrong));
        }
    }

    private static void promise15InLane() {
        PaintSequencer x = Scene.filled(6, 6, "012340", "", "11", "2");
        check.answers("15 inLane(0)", 6, () -> x.inLane(0));
        check.answers("15 inLane(1)", 0, () -> x.inLane(1));
        check.answers("15 inLane(2)", 2, () -> x.inLane(2));
        x.releaseFrom(0);
        check.answers("15 inLane(0)", 5, () -> x.inLane(0));
        for (int wrong : new int[] {-1, 4, 5, FAR[0], FAR[1]}) {
            check.fails("15 no such lane", INDEX, () -> x.inLane(wrong));
        }
    }

    private static void promise16BodyAt() {
        PaintSequencer x = Scene.filled(6, 6, "01", "", "234");
        check.answers("16 the head", 2, () -> x.bodyAt(2, 0));
        check.answers("16 the last", 4, () -> x.bodyAt(2, 2));
        x.releaseFrom(2);
        check.answers("16 the head", 3, () -> x.bodyAt(2, 0));
        for (int wrong : new int[] {-1, 2, 5, 6, FAR[0], FAR[1]}) {
            check.fails("16 no such place", INDEX, () -> x.bodyAt(2, wrong));
        }
        check.fails("16 no such place", INDEX, () -> x.bodyAt(1, 0));
        for (int wrong : new int[] {-1, 3, 5, FAR[0], FAR[1]}) {
            check.fails("16 no such lane", INDEX, () -> x.bodyAt(wrong, 0));
        }
    }

    private static void promise17Block() {
        PaintSequencer x = Scene.filled(6, 6, "001000", "222222", "", "10");
        check.answers("17 block(0)", 2, () -> x.block(0));
        check.answers("17 block(1)", 6, () -> x.block(1));
        check.answers("17 empty", 0, () -> x.block(2));
        check.answers("17 block(3)", 1, () -> x.block(3));
        x.releaseFrom(0);
        x.releaseFrom(0);
        check.answers("17 block(0)", 1, () -> x.block(0));
        x.releaseFrom(0);
        check.answers("17 block(0)", 3, () -> x.block(0));
        for (int wrong : new int[] {-1, 4, 5, FAR[0], FAR[1]}) {
            check.fails("17 no such lane", INDEX, () -> x.block(wrong));
        }
    }

    private static void promise18Stored() {
        PaintSequencer x = Scene.filled(6, 6, "012340");
        for (int count = 0; count < 6; count++) {
            check.answers("18 stored", count, x::stored);
            x.release();
        }
        check.answers("18 stored", 6, x::stored);
        x.assemble();
        check.answers("18 stored", 5, x::stored);
        x.sendBack(3);
        check.answers("18 stored", 4, x::stored);
        x.reenter(3);
        check.answers("18 stored", 4, x::stored);
    }

    private static void promise19Changes() {
        PaintSequencer x = Scene.filled(6, 6, "110011", "0");
        int[] due = {0, 0, 1, 1, 2};
        for (int changes : due) {
            x.releaseFrom(0);
            check.answers("19 changes", changes, x::changes);
        }
        // A body that is released again counts again, and its colour is the latest then.
        x.sendBack(2);
        check.answers("19 reenter", 0, () -> x.reenter(2));
        x.releaseFrom(0);
        check.answers("19 changes", 2, x::changes);
        x.releaseFrom(0);
        check.answers("19 changes", 3, x::changes);
        x.assemble();
        check.answers("19 changes", 3, x::changes);
        x.releaseFrom(1);
        check.answers("19 changes", 3, x::changes);
    }

    private static void promise20Released() {
        PaintSequencer x = Scene.filled(6, 6, "00", "1", "1");
        x.release();
        x.releaseFrom(1);
        x.releaseBest();
        check.answers("20 released", 3, x::released);
        x.sendBack(0);
        x.reenter(0);
        x.assemble();
        check.answers("20 released", 3, x::released);
        x.release();
        x.release();
        check.answers("20 released", 5, x::released);
    }

    private static void promise21AssembledAt() {
        PaintSequencer x = Scene.filled(6, 6, "012");
        x.release();
        x.release();
        x.sendBack(0);
        check.fails("21 none so far", INDEX, () -> x.assembledAt(0));
        x.assemble();
        x.release();
        x.assemble();
        check.answers("21 assembledAt(0)", 1, () -> x.assembledAt(0));
        check.answers("21 assembledAt(1)", 2, () -> x.assembledAt(1));
        for (int wrong : new int[] {-1, 2, 98, 99, FAR[0], FAR[1]}) {
            check.fails("21 no such position", INDEX, () -> x.assembledAt(wrong));
        }
    }

    private static void promise22Lateness() {
        PaintSequencer x = Scene.filled(6, 6, "012", "3");
        x.release();
        check.fails("22 in the store", STATE, () -> x.lateness(0));
        x.sendBack(0);
        check.fails("22 in repair", STATE, () -> x.lateness(0));
        check.fails("22 in a lane", STATE, () -> x.lateness(1));
        x.releaseFrom(1);
        x.assemble();
        x.release();
        x.assemble();
        x.reenter(0);
        x.releaseFrom(1);
        x.assemble();
        check.answers("22 early", -3, () -> x.lateness(3));
        check.answers("22 on time", 0, () -> x.lateness(1));
        check.answers("22 late", 2, () -> x.lateness(0));
        for (int wrong : new int[] {-1, 4, 98, 99, FAR[0], FAR[1]}) {
            check.fails("22 no such body", INDEX, () -> x.lateness(wrong));
        }
    }

    private static void promise23WorstLateness() {
        PaintSequencer x = Scene.filled(6, 6, "0", "12", "3");
        x.releaseFrom(2);
        x.assemble();
        check.answers("23 none above 0", 0, x::worstLateness);
        x.releaseFrom(1);
        x.releaseFrom(1);
        x.assemble();
        x.assemble();
        check.answers("23 none above 0", 0, x::worstLateness);
        x.releaseFrom(0);
        x.assemble();
        check.answers("23 three late", 3, x::worstLateness);
        x.arrive(0);
        x.release();
        x.assemble();
        check.answers("23 the greatest stays", 3, x::worstLateness);
    }

    private static void promise24FewestChanges() {
        check.answers("24 none", 0, Scene.filled(6, 6, "", "")::fewestChanges);
        check.answers("24 one", 0, Scene.filled(6, 6, "3")::fewestChanges);
        check.answers("24 one lane", 5, Scene.filled(6, 6, "012340")::fewestChanges);
        check.answers("24 two lanes", 3, Scene.filled(6, 6, "0020", "1110")::fewestChanges);
        check.answers("24 apart", 4, Scene.filled(6, 6, "0", "1", "2", "3", "4")::fewestChanges);
        check.answers("24 twelve", 5, Scene.filled(6, 6, "012340", "012340")::fewestChanges);
        check.answers("24 twelve in five lanes", 3,
            Scene.filled(3, 6, "010", "101", "01", "10", "01")::fewestChanges);
        PaintSequencer full = Scene.filled(6, 1, "12", "21");
        full.releaseFrom(0);
        check.answers("24 whatever room the store has", 2, full::fewestChanges);
        PaintSequencer x = Scene.filled(6, 6, "0101", "1", "");
        check.answers("24 ahead of the first release", 3, x::fewestChanges);
        x.releaseFrom(1);
        check.answers("24 with the change of the next", 4, x::fewestChanges);
        check.answers("24 asked again", 4, x::fewestChanges);
        x.sendBack(4);
        check.answers("24 the body in repair counts for nothing", 4, x::fewestChanges);
        check.answers("24 nothing has moved", 4, () -> x.inLane(0));
        PaintSequencer y = Scene.filled(6, 6, "000000", "000000", "1");
        check.fails("24 thirteen", STATE, y::fewestChanges);
        y.releaseFrom(2);
        check.answers("24 twelve left", 1, y::fewestChanges);
    }

    private static void promise25FewestByAll() {
        check.answers("25 none", 0, Scene.filled(6, 6, "", "")::fewestByAll);
        check.answers("25 one lane", 5, Scene.filled(6, 6, "012340")::fewestByAll);
        check.answers("25 two lanes", 3, Scene.filled(6, 6, "0020", "1110")::fewestByAll);
        check.answers("25 apart", 4, Scene.filled(6, 6, "0", "1", "2", "3", "4")::fewestByAll);
        check.answers("25 eight in five lanes", 4,
            Scene.filled(6, 6, "01", "10", "01", "23", "")::fewestByAll);
        PaintSequencer x = Scene.filled(6, 6, "0101", "1", "22", "2");
        check.answers("25 ahead of the first release", 4, x::fewestByAll);
        x.releaseFrom(3);
        check.answers("25 goes on", 4, x::fewestByAll);
        x.releaseFrom(1);
        check.answers("25 with the change of the next", 5, x::fewestByAll);
        check.answers("25 nothing has moved", 4, () -> x.inLane(0));
        PaintSequencer y = Scene.filled(6, 6, "0000", "0000", "1");
        check.fails("25 nine", STATE, y::fewestByAll);
        check.answers("24 nine", 1, y::fewestChanges);
        y.releaseFrom(2);
        check.answers("25 eight left", 1, y::fewestByAll);
    }
}
