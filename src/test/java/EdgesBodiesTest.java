/**
 * The edges that promises 4 to 11 name, and the rules in "Terms" on which these stand: ties, rooms
 * that are just free, lanes behind the last, nothing released so far, and 99 bodies. The calls that
 * are refused one step further stand in RefusedTest.
 */
public final class EdgesBodiesTest {
    private static final Class<IllegalStateException> STATE = IllegalStateException.class;

    private static final Check check = new Check("EdgesBodiesTest");

    public static void main(String[] args) {
        comingIn();
        releasing();
        repairAndAssembling();
        check.end();
    }

    private static void comingIn() {
        arriveTakesTheColoursZeroToFour();
        theLastRoomIsTaken();
        entryRuleZeroTakesTheLowestOfSeveral();
        entryRuleZeroTakesTheFewest();
        entryRuleOneTakesTheLowestOfSeveral();
        entryRuleOneWithoutTheColour();
        entryRuleOneWithoutRoom();
        entryRuleOneAndTheLastBody();
        entryRuleTwoAheadOfTheFirstBody();
        entryRuleTwoBehindTheLastLane();
        entryRuleTwoBehindAnyRule();
        entryRuleTwoWithoutRoom();
        entryRuleTwoRoundToTheSameLane();
        entryRuleTwoInOneLane();
        ninetyNineBodiesByArrive();
        ninetyNineBodiesByArriveIn();
        arriveInTakesTheFirstAndLastLane();
        arriveInTakesTheLastRoom();
        arriveInAnswersNumbersFromZero();
    }

    private static void releasing() {
        theHeadWentInFirst();
        lanesGoOnPastTheirDepth();
        exitRuleZeroTakesTheLowestNumber();
        exitRuleOneAheadOfTheFirstRelease();
        exitRuleOneTakesTheLowestOfSeveral();
        exitRuleOneWithoutTheColour();
        exitRuleOneWhereverTheLatestIs();
        exitRuleTwoTakesTheLongestBlock();
        exitRuleTwoTakesTheLowestOfSeveral();
        exitRuleTwoAsByRuleOne();
        exitRuleTwoAheadOfTheFirstRelease();
        exitRuleTwoCountsFromTheHeadAlone();
        exitRulesKnowALatestBodyOfEachColour();
        theLastPlaceOfTheStore();
        theOnlyHead();
        releaseFromTheFirstAndLastLane();
        releaseFromTakesTheLastPlaceAndBody();
        releaseBestOfTwelve();
        releaseBestOfTwelveInLanesAlone();
        releaseBestTakesTheLowestLane();
        releaseBestCountsTheNextRelease();
        releaseBestAheadOfTheFirstRelease();
        releaseBestOfOne();
        releaseBestKnowsNoRule();
    }

    private static void repairAndAssembling() {
        sendBackTakesTheFirstAndLastBody();
        sendBackCountsFromOne();
        sendBackMakesRoomInTheStore();
        reenterGoesBehindTheLast();
        reenterTakesTheLastRoom();
        reenterByEachRule();
        reenterTakesTheFirstAndLastBody();
        reenterAtNinetyNine();
        assembleTakesTheLowestNumber();
        assembleMakesRoomInTheStore();
    }

    // ---- Promise 4

    private static void arriveTakesTheColoursZeroToFour() {
        PaintSequencer x = new PaintSequencer();
        check.answers("4 the colour 0", 0, () -> x.arrive(0));
        check.answers("4 the colour 4", 1, () -> x.arrive(4));
        check.answers("4 the colour 0", 0, () -> x.colour(0));
        check.answers("4 the colour 4", 4, () -> x.colour(1));
    }

    private static void theLastRoomIsTaken() {
        for (int entry = 0; entry < 3; entry++) {
            for (int free = 0; free < 3; free++) {
                String told = "4 only lane " + free + " has room, rule " + entry;
                int lane = free;
                PaintSequencer x = Scene.begun(3, 2, 2);
                for (int body = 0; body < 6; body++) {
                    x.arriveIn(1, body / 2);
                }
                x.releaseFrom(free);
                x.setRules(entry, 0);
                check.answers(told, lane, () -> x.arrive(1));
                check.answers(told, 6, () -> x.bodyAt(lane, 1));
                check.fails(told + ", then none", STATE, () -> x.arrive(1));
            }
        }
    }

    private static void entryRuleZeroTakesTheLowestOfSeveral() {
        PaintSequencer x = Scene.filled(6, 6, "0", "1", "2");
        check.answers("4 rule 0, of three the lowest", 0, () -> x.arrive(2));
        check.answers("4 rule 0, of two the lowest", 1, () -> x.arrive(2));
        PaintSequencer y = Scene.filled(6, 6, "00", "1", "22", "3", "4");
        check.answers("4 rule 0, not lane 0, of three the lowest", 1, () -> y.arrive(4));
    }

    private static void entryRuleZeroTakesTheFewest() {
        PaintSequencer x = Scene.filled(6, 6, "01234", "012340", "0123");
        check.answers("4 rule 0, the fewest", 2, () -> x.arrive(0));
        check.answers("4 rule 0, a tie again", 0, () -> x.arrive(0));
        PaintSequencer y = Scene.filled(6, 6, "0", "0", "0", "0", "");
        check.answers("4 rule 0, the empty one", 4, () -> y.arrive(0));
    }

    private static void entryRuleOneTakesTheLowestOfSeveral() {
        PaintSequencer x = Scene.filled(6, 6, "0", "11", "1", "");
        x.setRules(1, 0);
        check.answers("4 rule 1, the lowest, not the emptiest", 1, () -> x.arrive(1));
        PaintSequencer y = Scene.filled(6, 6, "00000", "0");
        y.setRules(1, 0);
        check.answers("4 rule 1, the lowest", 0, () -> y.arrive(0));
        check.answers("4 rule 1, the lowest that has room", 1, () -> y.arrive(0));
    }

    private static void entryRuleOneWithoutTheColour() {
        PaintSequencer x = Scene.begun(3, 6, 6);
        x.setRules(1, 0);
        check.answers("4 rule 1, nothing there", 0, () -> x.arrive(0));
        check.answers("4 rule 1, as by rule 0", 1, () -> x.arrive(1));
        check.answers("4 rule 1, as by rule 0", 2, () -> x.arrive(2));
        check.answers("4 rule 1, of several the lowest", 0, () -> x.arrive(3));
        check.answers("4 rule 1, the fewest", 1, () -> x.arrive(0));
        for (int lanes = 1; lanes <= 5; lanes++) {
            int last = lanes - 1;
            PaintSequencer y = Scene.begun(lanes, 6, 6);
            y.setRules(1, 0);
            for (int lane = 0; lane < lanes; lane++) {
                Scene.fill(y, lane, lane < last ? "411" : "41");
            }
            check.answers("4 rule 1, the fewest in the last lane", last, () -> y.arrive(4));
            check.answers("4 rule 1, the colour in the last lane", last, () -> y.arrive(4));
        }
    }

    private static void entryRuleOneWithoutRoom() {
        PaintSequencer x = Scene.filled(2, 6, "01", "0", "", "");
        x.setRules(1, 0);
        check.answers("4 rule 1, the one of its colour is full", 2, () -> x.arrive(1));
        check.answers("4 rule 1, now another has its colour", 2, () -> x.arrive(1));
        check.answers("4 rule 1, both are full", 3, () -> x.arrive(1));
    }

    private static void entryRuleOneAndTheLastBody() {
        PaintSequencer x = Scene.filled(6, 6, "10", "01", "1");
        x.setRules(1, 0);
        check.answers("4 rule 1, the last and not the head", 1, () -> x.arrive(1));
        x.releaseFrom(2);
        check.answers("4 rule 1, an empty lane has no last body", 2, () -> x.arrive(2));
        PaintSequencer y = Scene.filled(6, 6, "3", "00");
        y.setRules(1, 0);
        y.releaseFrom(0);
        check.answers("4 rule 1, colour 0 is no empty lane's", 1, () -> y.arrive(0));
        PaintSequencer z = Scene.filled(6, 6, "1", "01");
        z.setRules(1, 0);
        z.releaseFrom(0);
        check.answers("4 rule 1, a body that has left is no last one", 1, () -> z.arrive(1));
    }

    private static void entryRuleTwoAheadOfTheFirstBody() {
        for (int lanes = 1; lanes <= 5; lanes++) {
            PaintSequencer x = Scene.begun(lanes, 6, 6);
            x.setRules(2, 0);
            check.answers("4 rule 2, ahead of the first body: lane 0", 0, () -> x.arrive(0));
        }
        PaintSequencer anew = Scene.filled(6, 6, "0", "1", "2");
        anew.begin(5, 6, 6);
        anew.setRules(2, 0);
        check.answers("4 rule 2, ahead of the first body anew: lane 0", 0, () -> anew.arrive(0));
    }

    private static void entryRuleTwoBehindTheLastLane() {
        for (int lanes = 1; lanes <= 5; lanes++) {
            int last = lanes - 1;
            PaintSequencer x = Scene.begun(lanes, 6, 6);
            x.setRules(2, 0);
            for (int body = 0; body < 2 * lanes; body++) {
                int due = body % lanes;
                check.answers("4 rule 2, one lane behind the other", due, () -> x.arrive(0));
            }
            x.arriveIn(0, last);
            check.answers("4 rule 2, lane 0 behind the last lane", 0, () -> x.arrive(0));
        }
    }

    private static void entryRuleTwoBehindAnyRule() {
        PaintSequencer x = Scene.filled(6, 6, "0", "11", "", "2");
        x.setRules(0, 0);
        check.answers("4 by rule 0", 2, () -> x.arrive(4));
        x.setRules(2, 0);
        check.answers("4 rule 2 behind rule 0", 3, () -> x.arrive(4));
        x.setRules(1, 0);
        check.answers("4 by rule 1", 0, () -> x.arrive(0));
        x.setRules(2, 0);
        check.answers("4 rule 2 behind rule 1", 1, () -> x.arrive(0));
        x.arriveIn(0, 3);
        check.answers("4 rule 2 behind a told lane", 0, () -> x.arrive(0));
        // A body that has left the lane since still was the latest that went in.
        x.releaseFrom(0);
        x.releaseFrom(3);
        check.answers("4 rule 2, releases count for nothing", 1, () -> x.arrive(0));
    }

    private static void entryRuleTwoWithoutRoom() {
        PaintSequencer x = Scene.filled(2, 6, "", "00", "00", "0", "00");
        x.setRules(2, 0);
        x.arriveIn(0, 0);
        check.answers("4 rule 2, over two full lanes", 3, () -> x.arrive(0));
        check.answers("4 rule 2, over the full last lane to lane 0", 0, () -> x.arrive(0));
        x.releaseFrom(4);
        check.answers("4 rule 2, over three full lanes", 4, () -> x.arrive(0));
        check.fails("4 rule 2, all are full", STATE, () -> x.arrive(0));
        x.releaseFrom(2);
        x.releaseFrom(0);
        check.answers("4 rule 2, the next one behind that has room", 0, () -> x.arrive(0));
    }

    private static void entryRuleTwoRoundToTheSameLane() {
        PaintSequencer x = Scene.filled(2, 6, "00", "", "00");
        x.setRules(2, 0);
        x.arriveIn(0, 1);
        check.answers("4 rule 2, only the same lane has room", 1, () -> x.arrive(0));
        check.fails("4 rule 2, no lane has room", STATE, () -> x.arrive(0));
    }

    private static void entryRuleTwoInOneLane() {
        PaintSequencer x = Scene.begun(1, 2, 1);
        x.setRules(2, 0);
        check.answers("4 rule 2, one lane", 0, () -> x.arrive(0));
        check.answers("4 rule 2, one lane", 0, () -> x.arrive(0));
        check.fails("4 rule 2, one lane is full", STATE, () -> x.arrive(0));
    }

    private static void ninetyNineBodiesByArrive() {
        PaintSequencer x = Scene.begun(2, 6, 1);
        for (int body = 0; body < 99; body++) {
            check.answers("4 up to 99 bodies", 0, () -> x.arrive(4));
            x.release();
            x.assemble();
        }
        check.answers("4 up to 99 bodies", 99, x::bodies);
        check.fails("4 there were 99 bodies", STATE, () -> x.arrive(4));
        x.begin(2, 6, 1);
        check.answers("4 none since begin", 0, () -> x.arrive(4));
    }

    // ---- Promise 5

    private static void ninetyNineBodiesByArriveIn() {
        PaintSequencer x = Scene.begun(2, 6, 1);
        for (int body = 0; body < 99; body++) {
            int due = body;
            check.answers("5 up to 99 bodies", due, () -> x.arriveIn(4, 1));
            x.release();
            x.assemble();
        }
        check.fails("5 there were 99 bodies", STATE, () -> x.arriveIn(4, 1));
        check.fails("4 there were 99 bodies", STATE, () -> x.arrive(4));
        x.begin(2, 6, 1);
        check.answers("5 none since begin", 0, () -> x.arriveIn(4, 1));
    }

    private static void arriveInTakesTheFirstAndLastLane() {
        for (int lanes = 1; lanes <= 5; lanes++) {
            int last = lanes - 1;
            PaintSequencer x = Scene.begun(lanes, 6, 6);
            check.answers("5 lane 0, colour 0", 0, () -> x.arriveIn(0, 0));
            check.answers("5 the last lane, colour 4", 1, () -> x.arriveIn(4, last));
            check.answers("5 lane 0", 0, () -> x.where(0));
            check.answers("5 the last lane", last, () -> x.where(1));
            check.answers("5 colour 0", 0, () -> x.colour(0));
            check.answers("5 colour 4", 4, () -> x.colour(1));
        }
    }

    private static void arriveInTakesTheLastRoom() {
        PaintSequencer x = Scene.filled(3, 3, "00", "000", "000");
        x.setRules(2, 2);
        check.answers("5 the last room", 8, () -> x.arriveIn(0, 0));
        check.fails("5 no room", STATE, () -> x.arriveIn(0, 0));
        x.releaseFrom(2);
        check.answers("5 room again", 9, () -> x.arriveIn(0, 2));
        check.answers("5 behind the last", 9, () -> x.bodyAt(2, 2));
    }

    private static void arriveInAnswersNumbersFromZero() {
        PaintSequencer x = new PaintSequencer();
        check.answers("5 the number 0", 0, () -> x.arriveIn(1, 2));
        check.answers("4 body 1", 0, () -> x.arrive(1));
        check.answers("5 the number 2", 2, () -> x.arriveIn(1, 2));
        x.release();
        x.assemble();
        check.answers("5 numbers are not used again", 3, () -> x.arriveIn(1, 2));
    }

    // ---- Promise 6

    private static void theHeadWentInFirst() {
        PaintSequencer x = Scene.filled(3, 6, "012");
        x.release();
        x.sendBack(0);
        x.reenter(0);
        // Body 0 has the lowest number but is no head now.
        check.answers("6 first in first out", 1, x::release);
        check.answers("6 first in first out", 2, x::release);
        check.answers("6 first in first out", 0, x::release);
    }

    /** A lane is full all the time, while bodies go through it many times its depth. */
    private static void lanesGoOnPastTheirDepth() {
        for (int depth = 1; depth <= 6; depth++) {
            PaintSequencer x = Scene.begun(1, depth, 1);
            for (int body = 0; body < depth; body++) {
                x.arrive(body % 5);
            }
            for (int gone = 0; gone < 40; gone++) {
                for (int place = 0; place < depth; place++) {
                    int told = place;
                    check.answers("16 place " + place, gone + place, () -> x.bodyAt(0, told));
                }
                check.fails("4 the lane is full", STATE, () -> x.arrive(0));
                check.answers("6 the head", gone, x::release);
                check.answers("11 the only one", gone, x::assemble);
                x.arrive((gone + depth) % 5);
            }
        }
    }

    private static void exitRuleZeroTakesTheLowestNumber() {
        PaintSequencer x = Scene.begun(5, 6, 6);
        for (int lane = 4; lane >= 0; lane--) {
            x.arriveIn(0, lane);
        }
        for (int body = 0; body < 5; body++) {
            check.answers("6 rule 0, the lowest number, not lane", body, x::release);
        }
        check.fails("6 all lanes are empty", STATE, x::release);
    }

    private static void exitRuleOneAheadOfTheFirstRelease() {
        for (int colour = 0; colour < 5; colour++) {
            PaintSequencer x = new PaintSequencer();
            x.setRules(0, 1);
            x.arriveIn((colour + 1) % 5, 2);
            x.arriveIn(colour, 0);
            check.answers("6 rule 1, none released so far", 0, x::release);
        }
        PaintSequencer anew = Scene.filled(6, 6, "3");
        anew.release();
        anew.begin(3, 6, 6);
        anew.setRules(0, 1);
        anew.arriveIn(1, 0);
        anew.arriveIn(3, 1);
        check.answers("6 rule 1, none released since begin", 0, anew::release);
    }

    private static void exitRuleOneTakesTheLowestOfSeveral() {
        PaintSequencer x = Scene.begun(4, 6, 6);
        x.setRules(0, 1);
        x.arriveIn(2, 3);
        x.arriveIn(1, 0);
        x.arriveIn(2, 2);
        x.arriveIn(2, 1);
        x.arriveIn(2, 3);
        check.answers("6 rule 1, as by rule 0", 0, x::release);
        check.answers("6 rule 1, the lowest number, not lane", 2, x::release);
        check.answers("6 rule 1, the lowest number", 3, x::release);
        check.answers("6 rule 1, the only one", 4, x::release);
        check.answers("6 rule 1, another colour at last", 1, x::release);
    }

    private static void exitRuleOneWithoutTheColour() {
        PaintSequencer x = Scene.filled(6, 6, "03", "10", "20");
        x.setRules(0, 1);
        check.answers("6 rule 1, as by rule 0", 0, x::release);
        check.answers("6 rule 1, none has the colour, but behind heads", 1, x::release);
        check.answers("6 rule 1, as by rule 0", 2, x::release);
        check.answers("6 rule 1, as by rule 0", 3, x::release);
        check.answers("6 rule 1, as by rule 0", 4, x::release);
        check.answers("6 rule 1, the last one", 5, x::release);
    }

    private static void exitRuleOneWhereverTheLatestIs() {
        PaintSequencer sent = Scene.filled(6, 6, "2", "1", "02");
        sent.setRules(0, 1);
        sent.releaseFrom(2);
        sent.releaseFrom(0);
        sent.sendBack(0);
        check.answers("6 rule 1, the latest is in repair", 3, sent::release);
        PaintSequencer gone = Scene.filled(6, 6, "2", "1", "02");
        gone.setRules(0, 1);
        gone.releaseFrom(2);
        gone.releaseFrom(0);
        gone.assemble();
        gone.assemble();
        check.answers("6 rule 1, the latest is assembled", 3, gone::release);
    }

    private static void exitRuleTwoTakesTheLongestBlock() {
        PaintSequencer x = Scene.filled(6, 6, "01", "2223", "44");
        x.setRules(0, 2);
        check.answers("6 rule 2, a block of three", 2, x::release);
        PaintSequencer y = Scene.filled(6, 6, "0", "4", "11");
        y.setRules(0, 2);
        check.answers("6 rule 2, the last lane", 2, y::release);
        PaintSequencer z = Scene.filled(6, 6, "00000", "111111");
        z.setRules(0, 2);
        check.answers("6 rule 2, six ahead of five", 5, z::release);
        for (int longest = 0; longest < 5; longest++) {
            PaintSequencer lane = Scene.begun(5, 6, 6);
            lane.setRules(0, 2);
            // Each other lane has a head with a lower number and a block of two.
            for (int other = 0; other < 5; other++) {
                Scene.fill(lane, other, other == longest ? "" : "00");
            }
            Scene.fill(lane, longest, "111");
            check.answers("6 rule 2, the longest in lane " + longest, 8, lane::release);
        }
    }

    private static void exitRuleTwoTakesTheLowestOfSeveral() {
        PaintSequencer x = Scene.begun(4, 6, 6);
        x.setRules(0, 2);
        x.arriveIn(0, 0);
        x.arriveIn(1, 3);
        x.arriveIn(2, 1);
        x.arriveIn(1, 3);
        x.arriveIn(2, 1);
        x.arriveIn(3, 2);
        x.arriveIn(3, 2);
        check.answers("6 rule 2, the lowest number of three, not lane", 1, x::release);
        PaintSequencer y = Scene.filled(6, 6, "0", "1", "2");
        y.setRules(0, 2);
        check.answers("6 rule 2, all blocks of one", 0, y::release);
        check.answers("6 rule 2, all blocks of one", 1, y::release);
        check.answers("6 rule 2, all blocks of one", 2, y::release);
    }

    private static void exitRuleTwoAsByRuleOne() {
        PaintSequencer x = Scene.filled(6, 6, "2", "111111", "20", "2");
        x.setRules(0, 2);
        x.releaseFrom(3);
        check.answers("6 rule 2, the colour ahead of the block", 0, x::release);
        check.answers("6 rule 2, the colour ahead of the block", 7, x::release);
        check.answers("6 rule 2, no head has the colour", 1, x::release);
        // Of heads with the colour the lowest number, and not the longest block.
        PaintSequencer y = Scene.filled(6, 6, "10", "111", "1");
        y.setRules(0, 2);
        y.releaseFrom(2);
        check.answers("6 rule 2, the lowest number with the colour", 0, y::release);
    }

    private static void exitRuleTwoAheadOfTheFirstRelease() {
        for (int colour = 0; colour < 5; colour++) {
            PaintSequencer x = Scene.begun(2, 6, 6);
            x.setRules(0, 2);
            x.arriveIn(colour, 0);
            x.arriveIn((colour + 1) % 5, 1);
            x.arriveIn((colour + 1) % 5, 1);
            check.answers("6 rule 2, none released so far", 1, x::release);
        }
    }

    private static void exitRuleTwoCountsFromTheHeadAlone() {
        PaintSequencer x = Scene.filled(6, 6, "01111", "22", "0");
        x.setRules(0, 2);
        check.answers("6 rule 2, a block behind the head is none", 5, x::release);
        PaintSequencer y = Scene.filled(6, 6, "3033", "11");
        y.setRules(0, 2);
        check.answers("6 rule 2, one behind the other", 4, y::release);
        // The heads of the colour 1 are in two lanes, and a block is of one lane.
        PaintSequencer z = Scene.filled(6, 6, "1", "1", "00");
        z.setRules(0, 2);
        check.answers("6 rule 2, of its lane", 2, z::release);
        // A head with the colour of the longest block, but in another lane, does not begin it.
        PaintSequencer other = Scene.filled(6, 6, "1", "2", "11");
        other.setRules(0, 2);
        check.answers("6 rule 2, the head that begins it", 2, other::release);
    }

    private static void exitRulesKnowALatestBodyOfEachColour() {
        for (int exit = 1; exit < 3; exit++) {
            for (int colour = 0; colour < 5; colour++) {
                PaintSequencer x = Scene.begun(3, 6, 6);
                x.setRules(0, exit);
                x.arriveIn((colour + 1) % 5, 0);
                x.arriveIn((colour + 1) % 5, 0);
                x.arriveIn(colour, 1);
                x.arriveIn(colour, 2);
                x.releaseFrom(2);
                check.answers("6 rule " + exit + ", each colour goes on", 2, x::release);
            }
        }
    }

    private static void theLastPlaceOfTheStore() {
        for (int exit = 0; exit < 3; exit++) {
            PaintSequencer x = Scene.filled(6, 2, "000");
            x.setRules(0, exit);
            check.answers("6 the first place of the store", 0, x::release);
            check.answers("6 the last place of the store", 1, x::release);
            check.fails("6 the store is full", STATE, x::release);
            x.assemble();
            check.answers("6 a place behind assemble", 2, x::release);
        }
    }

    private static void theOnlyHead() {
        for (int exit = 0; exit < 3; exit++) {
            for (int lane = 0; lane < 5; lane++) {
                PaintSequencer x = Scene.begun(5, 1, 1);
                x.setRules(0, exit);
                x.arriveIn(4, lane);
                check.answers("6 the only head", 0, x::release);
                check.fails("6 no head is left", STATE, x::release);
            }
        }
    }

    // ---- Promise 7

    private static void releaseFromTheFirstAndLastLane() {
        for (int lanes = 1; lanes <= 5; lanes++) {
            int last = lanes - 1;
            PaintSequencer x = Scene.begun(lanes, 6, 6);
            x.arriveIn(0, last);
            x.arriveIn(0, 0);
            check.answers("7 the last lane", 0, () -> x.releaseFrom(last));
            check.answers("7 lane 0", 1, () -> x.releaseFrom(0));
        }
    }

    private static void releaseFromTakesTheLastPlaceAndBody() {
        PaintSequencer x = Scene.filled(6, 2, "0", "10");
        x.setRules(0, 1);
        check.answers("7 whatever the exit rule tells", 1, () -> x.releaseFrom(1));
        check.answers("7 the last body, the last place", 2, () -> x.releaseFrom(1));
        check.answers("7 the lane is empty", 0, () -> x.inLane(1));
        check.fails("7 the store is full", STATE, () -> x.releaseFrom(0));
        x.sendBack(1);
        check.answers("7 a place behind sendBack", 0, () -> x.releaseFrom(0));
    }

    // ---- Promise 8

    private static void releaseBestOfTwelve() {
        // The lanes are alike, and go one step each in turn.
        PaintSequencer x = Scene.filled(6, 6, "010101", "010101");
        check.answers("8 twelve bodies", 0, x::releaseBest);
        check.answers("8 eleven left", 5, x::fewestChanges);
        check.answers("8 the second 0", 6, x::releaseBest);
        // All 1 and all 2 go first, and then the 0 of all lanes together.
        PaintSequencer y = Scene.filled(3, 1, "00", "100", "10", "200", "20");
        check.answers("8 twelve in five lanes", 2, y::releaseBest);
        PaintSequencer z = Scene.filled(6, 1, "000000", "111111", "0");
        check.fails("8 thirteen bodies", STATE, z::releaseBest);
        z.releaseFrom(1);
        z.assemble();
        check.answers("8 twelve are left", 7, z::releaseBest);
    }

    private static void releaseBestOfTwelveInLanesAlone() {
        PaintSequencer x = Scene.filled(6, 6, "3210", "1", "");
        for (int body = 0; body < 4; body++) {
            x.releaseFrom(0);
        }
        x.assemble();
        x.sendBack(1);
        // One is assembled, one in repair, two are in the store.
        Scene.fill(x, 0, "012340");
        Scene.fill(x, 1, "01234");
        check.answers("8 twelve are in lanes, sixteen have come", 5, x::releaseBest);
        x.reenter(1);
        x.arriveIn(0, 2);
        check.fails("8 thirteen are in lanes", STATE, x::releaseBest);
    }

    private static void releaseBestTakesTheLowestLane() {
        PaintSequencer x = Scene.begun(5, 6, 6);
        for (int lane = 4; lane > 0; lane--) {
            x.arriveIn(3, lane);
        }
        check.answers("8 the lowest lane, not number", 3, x::releaseBest);
        check.answers("8 the lowest lane", 2, x::releaseBest);
        check.answers("8 the lowest lane", 1, x::releaseBest);
        check.answers("8 the lowest lane", 0, x::releaseBest);
    }

    private static void releaseBestCountsTheNextRelease() {
        PaintSequencer x = Scene.filled(6, 6, "1", "0", "0");
        x.releaseFrom(1);
        check.answers("8 the change of the next release counts", 2, x::releaseBest);
        check.answers("8 the other colour", 0, x::releaseBest);
        // 0 1 0 and 1 0 0 have two changes each behind a 0, so the lower lane goes.
        PaintSequencer y = Scene.filled(6, 6, "10", "0", "0");
        y.releaseFrom(2);
        check.answers("8 fewest", 2, y::fewestChanges);
        check.answers("8 a change is had anyway", 0, y::releaseBest);
        check.answers("8 and the rest goes together", 1, y::releaseBest);
    }

    private static void releaseBestAheadOfTheFirstRelease() {
        for (int colour = 0; colour < 5; colour++) {
            PaintSequencer x = Scene.begun(2, 6, 6);
            x.arriveIn((colour + 1) % 5, 0);
            x.arriveIn(colour, 1);
            check.answers("8 the first release is no change", 0, x::releaseBest);
            check.answers("8 the other", 1, x::releaseBest);
            check.answers("8 one change", 1, x::changes);
        }
    }

    private static void releaseBestOfOne() {
        for (int lane = 0; lane < 5; lane++) {
            PaintSequencer x = Scene.begun(5, 6, 1);
            x.arriveIn(2, lane);
            check.answers("8 the only body, the only place", 0, x::releaseBest);
            check.fails("8 all lanes are empty", STATE, x::releaseBest);
        }
    }

    private static void releaseBestKnowsNoRule() {
        for (int exit = 0; exit < 3; exit++) {
            // Rule 0 and 1 tell lane 1, rule 2 tells lane 2; 1 ahead of 0 0 0 is the fewest.
            PaintSequencer x = Scene.begun(3, 6, 6);
            x.setRules(0, exit);
            x.arriveIn(0, 1);
            x.arriveIn(1, 0);
            x.arriveIn(0, 0);
            x.arriveIn(0, 2);
            x.arriveIn(0, 2);
            check.answers("8 whatever the exit rule tells", 1, x::releaseBest);
        }
    }

    // ---- Promise 9

    private static void sendBackTakesTheFirstAndLastBody() {
        PaintSequencer x = Scene.filled(6, 6, "0", "1", "2");
        x.release();
        x.release();
        x.release();
        check.answers("9 the last body", 1, () -> x.sendBack(2));
        check.answers("9 body 0", 2, () -> x.sendBack(0));
        PaintSequencer spent = Scene.begun(1, 1, 1);
        for (int body = 0; body < 98; body++) {
            spent.arrive(0);
            spent.release();
            spent.assemble();
        }
        spent.arrive(0);
        spent.release();
        check.answers("9 body 98", 1, () -> spent.sendBack(98));
    }

    private static void sendBackCountsFromOne() {
        PaintSequencer x = Scene.filled(6, 6, "01234", "01234");
        for (int body = 0; body < 10; body++) {
            int sent = body;
            int due = body + 1;
            x.release();
            check.answers("9 how many are in repair then", due, () -> x.sendBack(sent));
        }
        x.reenter(4);
        x.reenter(7);
        x.release();
        check.answers("9 without those that came in again", 9, () -> x.sendBack(4));
        x.begin(1, 6, 6);
        x.arrive(0);
        x.release();
        check.answers("9 none from ahead of begin", 1, () -> x.sendBack(0));
    }

    private static void sendBackMakesRoomInTheStore() {
        PaintSequencer x = Scene.filled(6, 1, "012");
        x.release();
        check.fails("9 the store is full", STATE, x::release);
        x.sendBack(0);
        check.answers("9 the store is empty", 0, x::stored);
        check.answers("9 a place again", 1, x::release);
        check.answers("9 assembling leaves repair alone", 1, x::assemble);
        check.fails("9 assembling leaves repair alone", STATE, x::assemble);
    }

    // ---- Promise 10

    private static void reenterGoesBehindTheLast() {
        PaintSequencer x = Scene.filled(6, 6, "012");
        x.release();
        x.sendBack(0);
        check.answers("10 its lane", 0, () -> x.reenter(0));
        check.answers("10 behind the last one", 0, () -> x.bodyAt(0, 2));
        check.answers("10 it is no new body", 3, x::bodies);
        check.fails("10 it is in repair no more", STATE, () -> x.reenter(0));
        check.answers("10 into an empty lane", 0, () -> {
            x.release();
            x.release();
            x.release();
            x.sendBack(2);
            return x.reenter(2);
        });
        check.answers("10 it is the head", 2, () -> x.bodyAt(0, 0));
    }

    private static void reenterTakesTheLastRoom() {
        for (int entry = 0; entry < 3; entry++) {
            PaintSequencer x = Scene.filled(2, 6, "01", "11", "11");
            x.releaseFrom(0);
            x.sendBack(0);
            x.setRules(entry, 0);
            check.answers("10 only lane 0 has room, rule " + entry, 0, () -> x.reenter(0));
            check.answers("10 now it is full", 2, () -> x.inLane(0));
        }
    }

    private static void reenterByEachRule() {
        int[] due = {3, 1, 2};
        for (int entry = 0; entry < 3; entry++) {
            int lane = due[entry];
            int behind = (lane + 1) % 4;
            PaintSequencer x = Scene.filled(6, 6, "033", "10", "11", "2");
            x.releaseFrom(0);
            x.sendBack(0);
            x.arriveIn(0, 1);
            x.setRules(entry, 0);
            check.answers("10 by rule " + entry, lane, () -> x.reenter(0));
            x.setRules(2, 0);
            check.answers("10 it went in latest", behind, () -> x.arrive(4));
        }
    }

    private static void reenterTakesTheFirstAndLastBody() {
        PaintSequencer x = Scene.filled(6, 6, "0", "1", "2");
        for (int body = 0; body < 3; body++) {
            x.release();
            x.sendBack(body);
        }
        check.answers("10 the last body", 0, () -> x.reenter(2));
        check.answers("10 body 0", 1, () -> x.reenter(0));
        check.answers("10 the one between", 2, () -> x.reenter(1));
    }

    private static void reenterAtNinetyNine() {
        PaintSequencer x = Scene.begun(1, 1, 1);
        for (int body = 0; body < 98; body++) {
            x.arrive(0);
            x.release();
            x.assemble();
        }
        x.arrive(0);
        x.release();
        x.sendBack(98);
        check.fails("4 there were 99 bodies", STATE, () -> x.arrive(0));
        check.answers("10 it is no new body", 0, () -> x.reenter(98));
        check.answers("10 there are 99 still", 99, x::bodies);
    }

    // ---- Promise 11

    private static void assembleTakesTheLowestNumber() {
        PaintSequencer x = Scene.filled(6, 6, "012", "34");
        x.releaseFrom(1);
        x.releaseFrom(0);
        x.releaseFrom(1);
        x.releaseFrom(0);
        check.answers("11 the lowest, not the first released", 0, x::assemble);
        check.answers("11 the lowest", 1, x::assemble);
        x.releaseFrom(0);
        check.answers("11 the lowest, released latest", 2, x::assemble);
        check.answers("11 the lowest", 3, x::assemble);
        check.answers("11 the only one", 4, x::assemble);
        check.fails("11 the store is empty", STATE, x::assemble);
    }

    private static void assembleMakesRoomInTheStore() {
        PaintSequencer x = Scene.filled(6, 6, "012340", "0");
        for (int body = 0; body < 6; body++) {
            x.releaseFrom(0);
        }
        check.fails("11 the store is full", STATE, x::release);
        check.answers("11 assemble", 0, x::assemble);
        check.answers("11 one place", 6, x::release);
        check.fails("11 the store is full", STATE, x::release);
    }
}
