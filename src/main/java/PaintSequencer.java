/**
 * A resequencer of car bodies ahead of and behind a paint booth: bodies come in a promised order
 * and go into lanes, first in first out; heads of lanes are released into the booth so that blocks
 * of one colour become longer; bodies may be sent back for repair and come in again late; behind
 * the booth a small store gives back the promised order as far as it can.
 */
public final class PaintSequencer {
    private static final int MOST_BODIES = 99;
    private static final int MOST_LANES = 5;
    private static final int MOST_DEPTH = 6;
    private static final int MOST_STORE = 6;
    private static final int COLOURS = 5;
    private static final int RULES = 3;
    private static final int MOST_PLANNED = 12;
    private static final int MOST_TRIED = 8;

    private static final int FIRST_LANES = 3;
    private static final int FIRST_DEPTH = 4;
    private static final int FIRST_STORE = 3;

    private static final int ENTRY_BY_COLOUR = 1;
    private static final int ENTRY_IN_TURN = 2;
    private static final int EXIT_BY_NUMBER = 0;
    private static final int EXIT_BY_BLOCK = 2;

    private static final int IN_STORE = 10;
    private static final int IN_REPAIR = 11;
    private static final int ASSEMBLED = 12;

    private static final int NO_LANE = -1;
    private static final int NO_BODY = -1;
    // No body has this colour, so that nothing is alike to it ahead of the first release.
    private static final int NO_COLOUR = -1;
    private static final int ANY_COLOUR = -2;

    private final Lane[] lanes;
    private final int[] colours;
    private final int[] places;
    private final int[] positions;
    private final int[] order;
    private final Plan plan;

    private int laneCount;
    private int depth;
    private int storeRoom;
    private int entryRule;
    private int exitRule;

    private int bodies;
    private int assembled;
    private int laneInTurn;
    private int latestColour;
    private int changes;
    private int released;

    public PaintSequencer() {
        lanes = new Lane[MOST_LANES];
        for (int lane = 0; lane < MOST_LANES; lane++) {
            lanes[lane] = new Lane();
        }
        colours = new int[MOST_BODIES];
        places = new int[MOST_BODIES];
        positions = new int[MOST_BODIES];
        order = new int[MOST_BODIES];
        plan = new Plan();
        laneCount = FIRST_LANES;
        depth = FIRST_DEPTH;
        storeRoom = FIRST_STORE;
        latestColour = NO_COLOUR;
    }

    // ---- setting up

    public int begin(int lanes, int depth, int store) throws IllegalArgumentException {
        if (lanes < 1 || lanes > MOST_LANES) {
            throw new IllegalArgumentException("lanes is out of range");
        }
        if (depth < 1 || depth > MOST_DEPTH) {
            throw new IllegalArgumentException("depth is out of range");
        }
        if (store < 1 || store > MOST_STORE) {
            throw new IllegalArgumentException("store is out of range");
        }
        int came = bodies;
        laneCount = lanes;
        this.depth = depth;
        storeRoom = store;
        forgetBodies();
        return came;
    }

    public void setRules(int entry, int exit) throws IllegalArgumentException {
        if (entry < 0 || entry >= RULES) {
            throw new IllegalArgumentException("entry is out of range");
        }
        if (exit < 0 || exit >= RULES) {
            throw new IllegalArgumentException("exit is out of range");
        }
        entryRule = entry;
        exitRule = exit;
    }

    // ---- bodies

    public int arrive(int colour) throws IllegalArgumentException, IllegalStateException {
        if (!isColour(colour)) {
            throw new IllegalArgumentException("colour is out of range");
        }
        if (bodies >= MOST_BODIES) {
            throw new IllegalStateException("there were 99 bodies");
        }
        int lane = laneByEntryRule(colour);
        if (lane == NO_LANE) {
            throw new IllegalStateException("no lane has room");
        }
        putInto(lane, newBody(colour));
        return lane;
    }

    public int arriveIn(int colour, int lane)
            throws IllegalArgumentException, IndexOutOfBoundsException, IllegalStateException {
        if (!isColour(colour)) {
            throw new IllegalArgumentException("colour is out of range");
        }
        if (!isLane(lane)) {
            throw new IndexOutOfBoundsException("there is no such lane");
        }
        if (bodies >= MOST_BODIES) {
            throw new IllegalStateException("there were 99 bodies");
        }
        if (!hasRoom(lane)) {
            throw new IllegalStateException("the lane has no room");
        }
        int body = newBody(colour);
        putInto(lane, body);
        return body;
    }

    public int release() throws IllegalStateException {
        if (storeIsFull()) {
            throw new IllegalStateException("the store is full");
        }
        int lane = laneByExitRule();
        if (lane == NO_LANE) {
            throw new IllegalStateException("all lanes are empty");
        }
        return takeHeadOf(lane);
    }

    public int releaseFrom(int lane) throws IndexOutOfBoundsException, IllegalStateException {
        if (!isLane(lane)) {
            throw new IndexOutOfBoundsException("there is no such lane");
        }
        if (lanes[lane].isEmpty()) {
            throw new IllegalStateException("the lane is empty");
        }
        if (storeIsFull()) {
            throw new IllegalStateException("the store is full");
        }
        return takeHeadOf(lane);
    }

    public int releaseBest() throws IllegalStateException {
        if (storeIsFull()) {
            throw new IllegalStateException("the store is full");
        }
        if (countInLanes() > MOST_PLANNED) {
            throw new IllegalStateException("there are more than 12 bodies in lanes");
        }
        copyLanesIntoPlan();
        int lane = plan.bestLane(latestColour);
        if (lane == NO_LANE) {
            throw new IllegalStateException("all lanes are empty");
        }
        return takeHeadOf(lane);
    }

    public int sendBack(int body) throws IndexOutOfBoundsException, IllegalStateException {
        if (!isBody(body)) {
            throw new IndexOutOfBoundsException("there is no such body");
        }
        if (places[body] != IN_STORE) {
            throw new IllegalStateException("the body is not in the store");
        }
        places[body] = IN_REPAIR;
        return countAt(IN_REPAIR);
    }

    public int reenter(int body) throws IndexOutOfBoundsException, IllegalStateException {
        if (!isBody(body)) {
            throw new IndexOutOfBoundsException("there is no such body");
        }
        if (places[body] != IN_REPAIR) {
            throw new IllegalStateException("the body is not in repair");
        }
        int lane = laneByEntryRule(colours[body]);
        if (lane == NO_LANE) {
            throw new IllegalStateException("no lane has room");
        }
        putInto(lane, body);
        return lane;
    }

    public int assemble() throws IllegalStateException {
        int body = lowestInStore();
        if (body == NO_BODY) {
            throw new IllegalStateException("the store is empty");
        }
        places[body] = ASSEMBLED;
        positions[body] = assembled;
        order[assembled] = body;
        assembled++;
        return body;
    }

    // ---- what is where

    public int bodies() {
        return bodies;
    }

    public int colour(int body) throws IndexOutOfBoundsException {
        if (!isBody(body)) {
            throw new IndexOutOfBoundsException("there is no such body");
        }
        return colours[body];
    }

    public int where(int body) throws IndexOutOfBoundsException {
        if (!isBody(body)) {
            throw new IndexOutOfBoundsException("there is no such body");
        }
        return places[body];
    }

    public int inLane(int lane) throws IndexOutOfBoundsException {
        if (!isLane(lane)) {
            throw new IndexOutOfBoundsException("there is no such lane");
        }
        return lanes[lane].count();
    }

    public int bodyAt(int lane, int place) throws IndexOutOfBoundsException {
        if (!isLane(lane)) {
            throw new IndexOutOfBoundsException("there is no such lane");
        }
        int body = lanes[lane].at(place);
        if (body == NO_BODY) {
            throw new IndexOutOfBoundsException("the lane has no such place");
        }
        return body;
    }

    public int block(int lane) throws IndexOutOfBoundsException {
        if (!isLane(lane)) {
            throw new IndexOutOfBoundsException("there is no such lane");
        }
        return blockOf(lane);
    }

    public int stored() {
        return countAt(IN_STORE);
    }

    public int changes() {
        return changes;
    }

    public int released() {
        return released;
    }

    public int assembledAt(int position) throws IndexOutOfBoundsException {
        if (position < 0 || position >= assembled) {
            throw new IndexOutOfBoundsException("there is no such position so far");
        }
        return order[position];
    }

    public int lateness(int body) throws IndexOutOfBoundsException, IllegalStateException {
        if (!isBody(body)) {
            throw new IndexOutOfBoundsException("there is no such body");
        }
        if (places[body] != ASSEMBLED) {
            throw new IllegalStateException("the body is not assembled");
        }
        return positions[body] - body;
    }

    public int worstLateness() {
        int worst = 0;
        for (int position = 0; position < assembled; position++) {
            int late = position - order[position];
            if (late > worst) {
                worst = late;
            }
        }
        return worst;
    }

    // ---- the fewest changes

    public int fewestChanges() throws IllegalStateException {
        if (countInLanes() > MOST_PLANNED) {
            throw new IllegalStateException("there are more than 12 bodies in lanes");
        }
        copyLanesIntoPlan();
        return plan.fewest(latestColour);
    }

    public int fewestByAll() throws IllegalStateException {
        if (countInLanes() > MOST_TRIED) {
            throw new IllegalStateException("there are more than 8 bodies in lanes");
        }
        copyLanesIntoPlan();
        return plan.fewestOfAllOrders(latestColour);
    }

    // ---- what there is

    private static boolean isColour(int colour) {
        return colour >= 0 && colour < COLOURS;
    }

    private boolean isLane(int lane) {
        return lane >= 0 && lane < laneCount;
    }

    private boolean isBody(int body) {
        return body >= 0 && body < bodies;
    }

    private boolean hasRoom(int lane) {
        return lanes[lane].count() < depth;
    }

    private boolean storeIsFull() {
        return countAt(IN_STORE) >= storeRoom;
    }

    private int countAt(int place) {
        int count = 0;
        for (int body = 0; body < bodies; body++) {
            if (places[body] == place) {
                count++;
            }
        }
        return count;
    }

    private int countInLanes() {
        int count = 0;
        for (int lane = 0; lane < laneCount; lane++) {
            count += lanes[lane].count();
        }
        return count;
    }

    private int lowestInStore() {
        for (int body = 0; body < bodies; body++) {
            if (places[body] == IN_STORE) {
                return body;
            }
        }
        return NO_BODY;
    }

    // ---- coming in

    private int laneByEntryRule(int colour) {
        int lane = NO_LANE;
        if (entryRule == ENTRY_BY_COLOUR) {
            lane = firstLaneEndingIn(colour);
        }
        if (entryRule == ENTRY_IN_TURN) {
            lane = firstLaneInTurn();
        }
        return lane == NO_LANE ? emptiestLane() : lane;
    }

    private int emptiestLane() {
        int emptiest = NO_LANE;
        // Only a lane with room can have fewer bodies than the depth.
        int fewest = depth;
        for (int lane = 0; lane < laneCount; lane++) {
            if (lanes[lane].count() < fewest) {
                emptiest = lane;
                fewest = lanes[lane].count();
            }
        }
        return emptiest;
    }

    private int firstLaneEndingIn(int colour) {
        for (int lane = 0; lane < laneCount; lane++) {
            if (hasRoom(lane) && colourOf(lanes[lane].last()) == colour) {
                return lane;
            }
        }
        return NO_LANE;
    }

    private int firstLaneInTurn() {
        int lane = laneInTurn;
        for (int looked = 0; looked < laneCount; looked++) {
            if (hasRoom(lane)) {
                return lane;
            }
            lane = laneBehind(lane);
        }
        return NO_LANE;
    }

    private int laneBehind(int lane) {
        return lane + 1 < laneCount ? lane + 1 : 0;
    }

    private int newBody(int colour) {
        int body = bodies;
        colours[body] = colour;
        bodies++;
        return body;
    }

    private void putInto(int lane, int body) {
        lanes[lane].add(body);
        places[body] = lane;
        laneInTurn = laneBehind(lane);
    }

    // ---- releasing

    private int laneByExitRule() {
        int alike = exitRule == EXIT_BY_NUMBER ? NO_LANE : laneOfLowestHead(latestColour, 1);
        if (alike != NO_LANE) {
            return alike;
        }
        int shortest = exitRule == EXIT_BY_BLOCK ? longestBlock() : 1;
        return laneOfLowestHead(ANY_COLOUR, shortest);
    }

    private int laneOfLowestHead(int colour, int shortest) {
        int found = NO_LANE;
        int lowest = MOST_BODIES;
        for (int lane = 0; lane < laneCount; lane++) {
            int head = lanes[lane].at(0);
            boolean fits = head != NO_BODY && (colour == ANY_COLOUR || colourOf(head) == colour);
            if (fits && head < lowest && blockOf(lane) >= shortest) {
                found = lane;
                lowest = head;
            }
        }
        return found;
    }

    private int longestBlock() {
        int longest = 0;
        for (int lane = 0; lane < laneCount; lane++) {
            int length = blockOf(lane);
            if (length > longest) {
                longest = length;
            }
        }
        return longest;
    }

    private int blockOf(int lane) {
        Lane row = lanes[lane];
        int length = 0;
        while (length < row.count() && colourOf(row.at(length)) == colourOf(row.at(0))) {
            length++;
        }
        return length;
    }

    private int colourOf(int body) {
        return isBody(body) ? colours[body] : NO_COLOUR;
    }

    private int takeHeadOf(int lane) {
        int body = lanes[lane].takeHead();
        if (!isBody(body)) {
            return NO_BODY;
        }
        places[body] = IN_STORE;
        changes += changeBetween(latestColour, colours[body]);
        released++;
        latestColour = colours[body];
        return body;
    }

    private static int changeBetween(int before, int next) {
        return before == NO_COLOUR || before == next ? 0 : 1;
    }

    // ---- beginning and planning

    private void forgetBodies() {
        for (int lane = 0; lane < MOST_LANES; lane++) {
            lanes[lane].clear();
        }
        bodies = 0;
        assembled = 0;
        laneInTurn = 0;
        latestColour = NO_COLOUR;
        changes = 0;
        released = 0;
    }

    private void copyLanesIntoPlan() {
        plan.clear();
        for (int lane = 0; lane < laneCount; lane++) {
            for (int place = 0; place < lanes[lane].count(); place++) {
                plan.add(lane, colourOf(lanes[lane].at(place)));
            }
        }
    }

    /** Bodies one behind the other, the head at place 0. */
    private static final class Lane {
        private final int[] row = new int[MOST_DEPTH];
        private int size;

        int count() {
            return size;
        }

        boolean isEmpty() {
            return size == 0;
        }

        int at(int place) {
            return place >= 0 && place < size ? row[place] : NO_BODY;
        }

        int last() {
            return at(size - 1);
        }

        void add(int body) {
            if (size < MOST_DEPTH) {
                row[size] = body;
                size++;
            }
        }

        int takeHead() {
            int head = at(0);
            for (int place = 1; place < size; place++) {
                row[place - 1] = row[place];
            }
            size = size > 0 ? size - 1 : 0;
            return head;
        }

        void clear() {
            size = 0;
        }
    }

    /**
     * A copy of the colours in the lanes, on which releases are tried out. A state tells how many
     * bodies have been taken from each lane; its number is the sum of these, each times the stride
     * of its lane, so that every release leads to a state with a higher number.
     */
    private static final class Plan {
        // Twelve bodies in five lanes have the most states as 3, 3, 2, 2 and 2: 4 * 4 * 3 * 3 * 3.
        private static final int MOST_STATES = 432;

        private final int[][] waiting = new int[MOST_LANES][MOST_DEPTH];
        private final int[] sizes = new int[MOST_LANES];
        private final int[] taken = new int[MOST_LANES];
        private final int[] strides = new int[MOST_LANES];
        // The fewest changes from a state on if its next release is none, and the set of the
        // colours, as bits, with which that release can begin so that it stays at these.
        private final int[] leasts = new int[MOST_STATES];
        private final int[] starts = new int[MOST_STATES];

        void clear() {
            for (int lane = 0; lane < MOST_LANES; lane++) {
                sizes[lane] = 0;
            }
        }

        void add(int lane, int colour) {
            if (sizes[lane] < MOST_DEPTH) {
                waiting[lane][sizes[lane]] = colour;
                sizes[lane]++;
            }
        }

        int fewest(int latest) {
            fillTable();
            return fewestFrom(0, latest);
        }

        /** The lowest lane whose head can begin a release of all with the fewest changes. */
        int bestLane(int latest) {
            int fewest = fewest(latest);
            for (int lane = 0; lane < MOST_LANES; lane++) {
                if (sizes[lane] > 0 && fewestWith(lane, latest) == fewest) {
                    return lane;
                }
            }
            return NO_LANE;
        }

        private int fewestWith(int lane, int latest) {
            int colour = waiting[lane][0];
            return changeBetween(latest, colour) + fewestFrom(strides[lane], colour);
        }

        // From the state in which all are taken backwards, as each state needs those behind it.
        private void fillTable() {
            int states = layStrides();
            for (int lane = 0; lane < MOST_LANES; lane++) {
                taken[lane] = sizes[lane];
            }
            for (int state = states - 1; state >= 0; state--) {
                fillState(state);
                stepBack();
            }
        }

        private int layStrides() {
            int states = 1;
            for (int lane = 0; lane < MOST_LANES; lane++) {
                strides[lane] = states;
                states *= sizes[lane] + 1;
            }
            return states < MOST_STATES ? states : MOST_STATES;
        }

        private void stepBack() {
            for (int lane = 0; lane < MOST_LANES; lane++) {
                if (taken[lane] > 0) {
                    taken[lane]--;
                    return;
                }
                taken[lane] = sizes[lane];
            }
        }

        private void fillState(int state) {
            int least = 0;
            int start = 0;
            for (int lane = 0; lane < MOST_LANES; lane++) {
                if (taken[lane] < sizes[lane]) {
                    int colour = waiting[lane][taken[lane]];
                    int behind = fewestFrom(state + strides[lane], colour);
                    if (start == 0 || behind < least) {
                        least = behind;
                        start = 1 << colour;
                    } else if (behind == least) {
                        start |= 1 << colour;
                    }
                }
            }
            leasts[state] = least;
            starts[state] = start;
        }

        // Another colour costs one change and no more: any of the best starts can follow it.
        private int fewestFrom(int state, int latest) {
            if (state < 0 || state >= MOST_STATES) {
                return 0;
            }
            boolean free = latest == NO_COLOUR || starts[state] == 0;
            boolean goesOn = free || ((starts[state] >> latest) & 1) == 1;
            return goesOn ? leasts[state] : leasts[state] + 1;
        }

        int fewestOfAllOrders(int latest) {
            int left = 0;
            for (int lane = 0; lane < MOST_LANES; lane++) {
                taken[lane] = 0;
                left += sizes[lane];
            }
            return tryOrders(this, left, latest, 0, left + 1);
        }

        // An order with as many changes as the best one so far is not followed to its end.
        private static int tryOrders(Plan plan, int left, int latest, int spent, int best) {
            if (spent >= best) {
                return best;
            }
            if (left <= 0) {
                return spent;
            }
            int fewest = best;
            for (int lane = 0; lane < MOST_LANES; lane++) {
                int place = plan.taken[lane];
                if (place < plan.sizes[lane]) {
                    int colour = plan.waiting[lane][place];
                    int next = spent + changeBetween(latest, colour);
                    plan.taken[lane] = place + 1;
                    fewest = tryOrders(plan, left - 1, colour, next, fewest);
                    plan.taken[lane] = place;
                }
            }
            return fewest;
        }
    }
}
