/**
 * The edges that promises 12 to 25 name: counts from none to all, the head and the last place, the
 * first release, lateness below, at and above 0, and twelve or eight bodies in lanes. The calls
 * that are refused one step further stand in RefusedTest.
 */
public final class EdgesWhereTest {
    private static final Class<IndexOutOfBoundsException> INDEX = IndexOutOfBoundsException.class;
    private static final Class<IllegalStateException> STATE = IllegalStateException.class;

    private static final Check check = new Check("EdgesWhereTest");

    public static void main(String[] args) {
        whatIsWhere();
        theFewestChanges();
        check.end();
    }

    private static void whatIsWhere() {
        bodiesCountsFromZeroTo99();
        colourOfTheFirstAndLastBody();
        whereInEachPlace();
        whereInEachLane();
        inLaneFromEmptyToFull();
        bodyAtTheHeadAndTheLast();
        blockOfNoneOneAndAll();
        blockEndsAtAnotherColour();
        storedFromEmptyToFull();
        theFirstReleaseIsNoChange();
        theSameColourIsNoChange();
        changesByEachWayOfReleasing();
        changesCountAgainBehindBegin();
        releasedCountsEachRelease();
        positionsCountFromZero();
        latenessBelowAtAndAboveZero();
        latenessAtItsLeastAndGreatest();
        worstLatenessIsNeverBelowZero();
        worstLatenessIsTheGreatest();
    }

    private static void theFewestChanges() {
        fewestOfNone();
        fewestOfOne();
        fewestOfOneColour();
        fewestOfOneLane();
        fewestCountsTheNextRelease();
        fewestAheadOfTheFirstRelease();
        fewestWhateverRoomTheStoreHas();
        fewestOfBodiesInLanesAlone();
        theMostInLanesAndOthersElsewhere();
        fewestIsNotFoundByTakingTheNearest();
        fewestOfTwelve();
        fewestOfTwelveHoweverTheyAreSpread();
        fewestByAllOfEight();
        fewestMovesNothing();
        fewestAtCall512();
    }

    // ---- Promises 12 to 16

    private static void bodiesCountsFromZeroTo99() {
        PaintSequencer x = new PaintSequencer();
        check.answers("12 none", 0, x::bodies);
        x.arrive(0);
        check.answers("12 one", 1, x::bodies);
        x.arriveIn(0, 0);
        check.answers("12 two", 2, x::bodies);
        check.answers("12 wherever they are", 7, Scene.busy()::bodies);
        check.answers("12 all 99", 99, Scene.spent()::bodies);
    }

    private static void colourOfTheFirstAndLastBody() {
        PaintSequencer x = Scene.busy();
        int[] due = {0, 1, 2, 1, 3, 4, 4};
        for (int body = 0; body < due.length; body++) {
            int told = body;
            check.answers("13 wherever it is", due[body], () -> x.colour(told));
        }
        PaintSequencer spent = Scene.spent();
        check.answers("13 body 0 of 99", 0, () -> spent.colour(0));
        check.answers("13 body 98 of 99", 3, () -> spent.colour(98));
        x.reenter(1);
        check.answers("13 in a lane again", 1, () -> x.colour(1));
    }

    private static void whereInEachPlace() {
        PaintSequencer x = Scene.busy();
        int[] due = {12, 11, 0, 1, 10, 2, 0};
        for (int body = 0; body < due.length; body++) {
            int told = body;
            check.answers("14 body " + body, due[body], () -> x.where(told));
        }
        PaintSequencer spent = Scene.spent();
        check.answers("14 body 0 of 99", 12, () -> spent.where(0));
        check.answers("14 body 86 of 99", 12, () -> spent.where(86));
        x.reenter(1);
        check.answers("14 in repair until it comes in again", 1, () -> x.where(1));
    }

    private static void whereInEachLane() {
        PaintSequencer x = Scene.begun(5, 1, 1);
        for (int lane = 4; lane >= 0; lane--) {
            x.arriveIn(0, lane);
        }
        for (int body = 0; body < 5; body++) {
            int told = body;
            check.answers("14 its lane", 4 - body, () -> x.where(told));
        }
    }

    private static void inLaneFromEmptyToFull() {
        for (int lanes = 1; lanes <= 5; lanes++) {
            int last = lanes - 1;
            PaintSequencer x = Scene.begun(lanes, 6, 6);
            for (int count = 0; count < 6; count++) {
                check.answers("15 from empty", count, () -> x.inLane(last));
                x.arriveIn(0, last);
            }
            check.answers("15 full", 6, () -> x.inLane(last));
            for (int count = 5; count >= 0; count--) {
                x.releaseFrom(last);
                check.answers("15 to empty again", count, () -> x.inLane(last));
            }
        }
    }

    private static void bodyAtTheHeadAndTheLast() {
        PaintSequencer x = Scene.filled(6, 6, "0", "012340");
        for (int place = 0; place < 6; place++) {
            int told = place;
            check.answers("16 0 for the head", 1 + place, () -> x.bodyAt(1, told));
        }
        check.fails("16 no place behind the last", INDEX, () -> x.bodyAt(1, 6));
        x.releaseFrom(1);
        check.answers("16 the next is the head", 2, () -> x.bodyAt(1, 0));
        check.answers("16 the last has moved up", 6, () -> x.bodyAt(1, 4));
        check.fails("16 its place is no more", INDEX, () -> x.bodyAt(1, 5));
        check.answers("16 lane 0", 0, () -> x.bodyAt(0, 0));
        x.releaseFrom(0);
        check.fails("16 no place in an empty lane", INDEX, () -> x.bodyAt(0, 0));
    }

    // ---- Promises 17 and 18

    private static void blockOfNoneOneAndAll() {
        for (int colour = 0; colour < 5; colour++) {
            PaintSequencer x = Scene.begun(5, 6, 6);
            for (int count = 0; count <= 6; count++) {
                check.answers("17 from 0, empty, to all six", count, () -> x.block(4));
                if (count < 6) {
                    x.arriveIn(colour, 4);
                }
            }
            check.answers("17 0 if the lane is empty", 0, () -> x.block(0));
            for (int count = 5; count >= 0; count--) {
                x.releaseFrom(4);
                check.answers("17 to 0 again", count, () -> x.block(4));
            }
        }
    }

    private static void blockEndsAtAnotherColour() {
        PaintSequencer x = Scene.filled(6, 6, "110111", "01");
        int[] due = {2, 1, 1, 3, 2, 1};
        for (int block : due) {
            check.answers("17 one behind the other", block, () -> x.block(0));
            x.releaseFrom(0);
        }
        check.answers("17 a block of one", 1, () -> x.block(1));
    }

    private static void storedFromEmptyToFull() {
        PaintSequencer x = Scene.filled(6, 6, "012340", "0");
        for (int count = 0; count < 6; count++) {
            check.answers("18 from empty", count, x::stored);
            x.releaseFrom(0);
        }
        check.answers("18 full", 6, x::stored);
        x.sendBack(5);
        check.answers("18 without those sent back", 5, x::stored);
        for (int count = 4; count >= 0; count--) {
            x.assemble();
            check.answers("18 to empty again", count, x::stored);
        }
    }

    // ---- Promises 19 and 20

    private static void theFirstReleaseIsNoChange() {
        for (int colour = 0; colour < 5; colour++) {
            PaintSequencer x = Scene.begun(1, 6, 6);
            x.arrive(colour);
            x.arrive((colour + 1) % 5);
            check.answers("19 none ahead of it", 0, x::changes);
            x.release();
            check.answers("19 the first release is none", 0, x::changes);
            x.release();
            check.answers("19 the second may be one", 1, x::changes);
        }
    }

    private static void theSameColourIsNoChange() {
        for (int colour = 0; colour < 5; colour++) {
            PaintSequencer x = Scene.begun(1, 6, 6);
            x.arrive(colour);
            x.arrive(colour);
            x.arrive((colour + 4) % 5);
            x.arrive(colour);
            int[] due = {0, 0, 1, 2};
            for (int changes : due) {
                x.release();
                check.answers("19 another than the one before", changes, x::changes);
            }
        }
    }

    private static void changesByEachWayOfReleasing() {
        PaintSequencer x = Scene.filled(6, 6, "0123");
        x.release();
        x.releaseFrom(0);
        check.answers("19 by releaseFrom", 1, x::changes);
        x.releaseBest();
        check.answers("19 by releaseBest", 2, x::changes);
        x.release();
        check.answers("19 by release", 3, x::changes);
        // The same body again, with its own colour the latest.
        x.sendBack(3);
        x.reenter(3);
        x.release();
        check.answers("19 the same body again", 3, x::changes);
        x.sendBack(0);
        x.reenter(0);
        x.release();
        check.answers("19 a body again", 4, x::changes);
        x.assemble();
        check.answers("19 assembling is no release", 4, x::changes);
    }

    private static void changesCountAgainBehindBegin() {
        PaintSequencer x = Scene.filled(6, 6, "012");
        x.release();
        x.release();
        x.begin(1, 6, 6);
        check.answers("19 none anew", 0, x::changes);
        check.answers("20 none anew", 0, x::released);
        x.arrive(4);
        x.release();
        check.answers("19 the first release anew is none", 0, x::changes);
        check.answers("20 one anew", 1, x::released);
    }

    private static void releasedCountsEachRelease() {
        PaintSequencer x = Scene.filled(6, 6, "0123");
        check.answers("20 none", 0, x::released);
        x.release();
        check.answers("20 by release", 1, x::released);
        x.releaseFrom(0);
        check.answers("20 by releaseFrom", 2, x::released);
        x.releaseBest();
        check.answers("20 by releaseBest", 3, x::released);
        x.sendBack(1);
        check.answers("20 sending back takes none away", 3, x::released);
        x.reenter(1);
        x.assemble();
        check.answers("20 assembling is none", 3, x::released);
        x.release();
        x.release();
        check.answers("20 a body again counts again", 5, x::released);
    }

    // ---- Promises 21 to 23

    private static void positionsCountFromZero() {
        PaintSequencer x = Scene.filled(6, 6, "0", "1", "2");
        x.releaseFrom(2);
        check.fails("21 none so far", INDEX, () -> x.assembledAt(0));
        x.assemble();
        check.answers("21 position 0", 2, () -> x.assembledAt(0));
        check.fails("21 one so far", INDEX, () -> x.assembledAt(1));
        x.releaseFrom(0);
        x.assemble();
        x.releaseFrom(1);
        x.assemble();
        check.answers("21 position 0 stays", 2, () -> x.assembledAt(0));
        check.answers("21 position 1", 0, () -> x.assembledAt(1));
        check.answers("21 the last position", 1, () -> x.assembledAt(2));
        x.begin(1, 6, 6);
        check.fails("21 none anew", INDEX, () -> x.assembledAt(0));
        x.arrive(0);
        x.release();
        x.assemble();
        check.answers("21 position 0 anew", 0, () -> x.assembledAt(0));
        check.answers("22 lateness anew", 0, () -> x.lateness(0));
        check.fails("21 one anew", INDEX, () -> x.assembledAt(1));
    }

    private static void latenessBelowAtAndAboveZero() {
        PaintSequencer x = Scene.filled(6, 6, "0", "1", "2", "3");
        int[] lanes = {3, 1, 0, 2};
        for (int lane : lanes) {
            x.releaseFrom(lane);
            x.assemble();
        }
        int[] due = {2, 0, 1, -3};
        for (int body = 0; body < 4; body++) {
            int told = body;
            check.answers("22 its position less its number", due[body], () -> x.lateness(told));
        }
        check.answers("23 the greatest", 2, x::worstLateness);
    }

    /** Body 0 is assembled behind all others, and body 98 ahead of all others. */
    private static void latenessAtItsLeastAndGreatest() {
        PaintSequencer late = Scene.begun(1, 6, 6);
        late.arrive(0);
        late.release();
        late.sendBack(0);
        for (int body = 1; body < 99; body++) {
            late.arrive(0);
            late.release();
            late.assemble();
        }
        check.answers("23 all others are early", 0, late::worstLateness);
        late.reenter(0);
        late.release();
        check.answers("11 body 0 at last", 0, late::assemble);
        check.answers("22 98 late", 98, () -> late.lateness(0));
        check.answers("22 one early", -1, () -> late.lateness(98));
        check.answers("21 position 98", 0, () -> late.assembledAt(98));
        check.fails("21 no position 99", INDEX, () -> late.assembledAt(99));
        check.answers("23 98 late", 98, late::worstLateness);

        PaintSequencer early = Scene.begun(2, 6, 6);
        for (int body = 0; body < 98; body++) {
            early.arrive(0);
            early.release();
            early.sendBack(body);
        }
        early.arrive(0);
        early.release();
        check.answers("11 body 98 ahead of all", 98, early::assemble);
        check.answers("22 98 early", -98, () -> early.lateness(98));
        check.answers("23 none above 0", 0, early::worstLateness);
    }

    private static void worstLatenessIsNeverBelowZero() {
        PaintSequencer x = Scene.filled(6, 6, "012", "3");
        check.answers("23 none is assembled", 0, x::worstLateness);
        x.releaseFrom(1);
        check.answers("23 none is assembled", 0, x::worstLateness);
        x.assemble();
        check.answers("23 three early", 0, x::worstLateness);
        PaintSequencer y = Scene.filled(6, 6, "012");
        for (int body = 0; body < 3; body++) {
            y.release();
            y.assemble();
            check.answers("23 all on time", 0, y::worstLateness);
        }
        PaintSequencer z = Scene.filled(6, 6, "0", "1");
        z.releaseFrom(1);
        z.assemble();
        z.releaseFrom(0);
        z.assemble();
        check.answers("23 one late", 1, z::worstLateness);
    }

    private static void worstLatenessIsTheGreatest() {
        PaintSequencer x = Scene.filled(6, 6, "0", "1", "2", "34");
        x.releaseFrom(1);
        x.assemble();
        x.releaseFrom(2);
        x.assemble();
        x.releaseFrom(0);
        x.assemble();
        check.answers("23 body 0 is two late", 2, x::worstLateness);
        x.releaseFrom(3);
        x.assemble();
        check.answers("23 the greatest stays, one is on time", 2, x::worstLateness);
        x.begin(2, 6, 6);
        check.answers("23 none anew", 0, x::worstLateness);
        // A body that is late, but not assembled, counts for nothing yet.
        Scene.fill(x, 0, "0");
        Scene.fill(x, 1, "12");
        x.releaseFrom(0);
        x.sendBack(0);
        x.releaseFrom(1);
        x.assemble();
        x.releaseFrom(1);
        x.assemble();
        check.answers("23 body 0 is in repair", 0, x::worstLateness);
        x.reenter(0);
        x.release();
        check.answers("23 body 0 is in the store", 0, x::worstLateness);
        x.assemble();
        check.answers("23 body 0 is assembled", 2, x::worstLateness);
    }

    // ---- Promises 24 and 25

    private static void fewest(String told, int due, PaintSequencer x) {
        check.answers("24 " + told, due, x::fewestChanges);
        check.answers("25 " + told, due, x::fewestByAll);
    }

    private static PaintSequencer behind(int colour, String... rows) {
        PaintSequencer x = Scene.begun(rows.length, 6, 6);
        x.arriveIn(colour, 0);
        x.release();
        for (int lane = 0; lane < rows.length; lane++) {
            Scene.fill(x, lane, rows[lane]);
        }
        return x;
    }

    private static void fewestOfNone() {
        fewest("no body came", 0, new PaintSequencer());
        fewest("all lanes are empty", 0, Scene.bare());
        fewest("all lanes are empty, the store full", 0, Scene.drained());
        fewest("five lanes, all empty", 0, behind(3, "", "", "", "", ""));
    }

    private static void fewestOfOne() {
        for (int colour = 0; colour < 5; colour++) {
            String row = Integer.toString(colour);
            fewest("one body, the first release", 0, Scene.filled(1, 1, row));
            fewest("one body, the same colour", 0, behind(colour, "", row));
            fewest("one body, another colour", 1, behind((colour + 1) % 5, "", row));
            fewest("one body, the last lane", 1, behind((colour + 4) % 5, "", "", "", "", row));
        }
    }

    private static void fewestOfOneColour() {
        fewest("one colour, the first releases", 0, Scene.filled(6, 6, "44", "4", "444", "4", "4"));
        fewest("one colour goes on", 0, behind(4, "44", "4", "444", "4", "4"));
        fewest("one colour behind another", 1, behind(0, "44", "4", "444", "4", "4"));
    }

    private static void fewestOfOneLane() {
        fewest("one lane, each another colour", 5, Scene.filled(6, 6, "010101"));
        fewest("one lane goes on", 5, behind(0, "010101"));
        fewest("one lane behind another colour", 6, behind(1, "010101"));
        fewest("one lane of one colour", 0, Scene.filled(6, 6, "222222"));
    }

    private static void fewestCountsTheNextRelease() {
        fewest("that of the next release included", 2, behind(3, "0", "1"));
        fewest("the next release may go on", 1, behind(0, "0", "1"));
        fewest("the next release may go on from the last lane", 1, behind(1, "0", "1"));
    }

    private static void fewestAheadOfTheFirstRelease() {
        fewest("the first release is none", 1, Scene.filled(6, 6, "0", "1"));
        PaintSequencer x = behind(3, "0", "1");
        x.begin(2, 6, 6);
        Scene.fill(x, 0, "0");
        Scene.fill(x, 1, "1");
        fewest("the first release anew is none", 1, x);
    }

    private static void fewestWhateverRoomTheStoreHas() {
        PaintSequencer x = Scene.filled(6, 1, "3", "01", "10");
        x.release();
        check.fails("6 the store is full", STATE, x::release);
        fewest("whatever room the store has", 3, x);
    }

    private static void fewestOfBodiesInLanesAlone() {
        PaintSequencer x = behind(2, "0", "1", "3");
        x.releaseFrom(1);
        x.sendBack(2);
        x.releaseFrom(2);
        x.assemble();
        // Left in a lane is body 1 alone, and colour 3 was released latest.
        fewest("bodies in lanes alone", 1, x);
        x.reenter(2);
        fewest("with the one that came in again", 2, x);
    }

    private static void theMostInLanesAndOthersElsewhere() {
        PaintSequencer x = Scene.filled(6, 6, "321", "");
        x.release();
        x.assemble();
        x.release();
        x.sendBack(1);
        x.release();
        // One is assembled, one in repair, one in the store, and colour 1 was released latest.
        Scene.fill(x, 0, "0011");
        Scene.fill(x, 1, "0001");
        fewest("eight in lanes, eleven came", 2, x);
        Scene.fill(x, 0, "22");
        Scene.fill(x, 1, "22");
        check.answers("24 twelve in lanes, fifteen came", 3, x::fewestChanges);
        check.fails("25 twelve in lanes", STATE, x::fewestByAll);
    }

    private static void fewestIsNotFoundByTakingTheNearest() {
        // Behind a 2, 0 1 0 0 has a change more than 1 0 0 0.
        fewest("not the nearest", 2, behind(2, "100", "0"));
        fewest("not the nearest in three lanes", 3, behind(3, "201", "01", "1"));
        // 0 11 00 11 0: both rows begin a step apart.
        fewest("the colours of lanes in turn", 4, Scene.filled(6, 6, "0101", "1010"));
        fewest("the latest colour has to wait", 2, behind(0, "10", "0", "10"));
    }

    private static void fewestOfTwelve() {
        String[] two = {"010101", "101010"};
        check.answers("24 twelve in two lanes", 6, Scene.filled(6, 6, two)::fewestChanges);
        check.answers("24 twelve in two lanes", 7, behind(4, two)::fewestChanges);
        String[] three = {"0123", "1230", "2301"};
        check.answers("24 twelve in three lanes", 5, Scene.filled(4, 6, three)::fewestChanges);
        String[] four = {"012", "012", "012", "012"};
        check.answers("24 twelve in four lanes", 2, Scene.filled(3, 6, four)::fewestChanges);
        String[] five = {"01", "120", "13", "34", "401"};
        check.answers("24 twelve in five lanes", 5, Scene.filled(6, 6, five)::fewestChanges);
        PaintSequencer x = Scene.filled(6, 6, "000000", "111111", "2");
        check.fails("24 thirteen", STATE, x::fewestChanges);
        x.releaseFrom(2);
        check.answers("24 twelve are left", 2, x::fewestChanges);
        x.sendBack(12);
        x.reenter(12);
        check.fails("24 thirteen again", STATE, x::fewestChanges);
    }

    /** The answers are those of the second telling of the document, as there are so many. */
    private static void fewestOfTwelveHoweverTheyAreSpread() {
        for (int spread = 0; spread < 7 * 7 * 7 * 7; spread++) {
            int[] counts = {spread % 7, spread / 7 % 7, spread / 49 % 7, spread / 343, 12};
            for (int lane = 0; lane < 4; lane++) {
                counts[4] -= counts[lane];
            }
            if (counts[4] >= 0 && counts[4] <= 6) {
                fewestOfTwelveSpreadOver(counts, spread);
            }
        }
    }

    private static void fewestOfTwelveSpreadOver(int[] counts, int spread) {
        PaintSequencer x = Scene.begun(5, 6, 6);
        Model model = new Model();
        model.begin(5, 6, 6);
        long drawn = spread;
        for (int lane = 0; lane < 5; lane++) {
            for (int body = 0; body < counts[lane]; body++) {
                drawn = drawn * 6364136223846793005L + 1442695040888963407L;
                int colour = (int) ((drawn >>> 33) % 5);
                x.arriveIn(colour, lane);
                model.arriveIn(colour, lane);
            }
        }
        String told = " spread " + counts[0] + counts[1] + counts[2] + counts[3] + counts[4];
        check.answers("24" + told, model.fewestChanges(), x::fewestChanges);
        while (x.released() < 6) {
            check.answers("8" + told, model.releaseBest(), x::releaseBest);
            check.answers("24" + told, model.fewestChanges(), x::fewestChanges);
        }
        check.answers("25" + told, model.fewestByAll(), x::fewestByAll);
    }

    private static void fewestByAllOfEight() {
        fewest("eight in two lanes", 4, Scene.filled(6, 6, "0101", "1010"));
        fewest("eight in two lanes, one full", 5, behind(0, "010101", "01"));
        fewest("eight in three lanes", 3, Scene.filled(6, 6, "012", "120", "20"));
        fewest("eight in five lanes", 4, behind(4, "01", "12", "20", "0", "1"));
        fewest("eight of one colour", 0, Scene.filled(6, 6, "11", "1", "11", "11", "1"));
        fewest("eight, as many changes as can be", 6, Scene.filled(6, 6, "010203", "04"));
        PaintSequencer x = Scene.filled(6, 6, "0000", "1111", "2");
        check.fails("25 nine", STATE, x::fewestByAll);
        check.answers("24 nine", 2, x::fewestChanges);
        x.releaseFrom(2);
        check.answers("25 eight are left", 2, x::fewestByAll);
        x.arriveIn(2, 2);
        check.fails("25 nine again", STATE, x::fewestByAll);
    }

    private static void fewestMovesNothing() {
        PaintSequencer x = Scene.busy();
        check.same("12 to 25 move nothing", Twins.everything(x), Twins.everything(x));
        Twins.alike(check, "24 moves nothing", Scene::busy, () -> {
            PaintSequencer asked = Scene.busy();
            asked.fewestChanges();
            return asked;
        });
        Twins.alike(check, "25 moves nothing", Scene::busy, () -> {
            PaintSequencer asked = Scene.busy();
            asked.fewestByAll();
            return asked;
        });
    }

    private static void fewestAtCall512() {
        PaintSequencer all = Scene.filled(6, 6, "01", "23", "40", "1", "2");
        for (int call = 10; call <= 512; call++) {
            check.answers("25 at call " + call, 4, all::fewestByAll);
        }
        PaintSequencer table = Scene.filled(6, 6, "012", "234", "401", "12", "2");
        for (int call = 14; call <= 512; call++) {
            check.answers("24 at call " + call, 5, table::fewestChanges);
        }
    }
}
