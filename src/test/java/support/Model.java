import java.util.ArrayList;
import java.util.Comparator;
import java.util.HashMap;
import java.util.List;
import java.util.Map;

/**
 * The document told a second time, by lists and by searches of another kind than those of the
 * class, so that a fault is not likely to stand in both.
 */
final class Model {
    private record Body(int number, int colour) { }

    private int laneCount = 3;
    private int depth = 4;
    private int storeRoom = 3;
    private int entryRule = 0;
    private int exitRule = 0;

    private final List<List<Body>> lanes = new ArrayList<>();
    private final List<Body> came = new ArrayList<>();
    private final List<Body> store = new ArrayList<>();
    private final List<Body> repair = new ArrayList<>();
    private final List<Body> assembled = new ArrayList<>();
    private final List<Body> releases = new ArrayList<>();
    private int latestLane;

    Model() {
        begin();
    }

    private void begin() {
        lanes.clear();
        for (int lane = 0; lane < laneCount; lane++) {
            lanes.add(new ArrayList<>());
        }
        came.clear();
        store.clear();
        repair.clear();
        assembled.clear();
        releases.clear();
        latestLane = -1;
    }

    private static void argument(boolean fits) {
        if (!fits) {
            throw new IllegalArgumentException();
        }
    }

    private static void index(boolean fits) {
        if (!fits) {
            throw new IndexOutOfBoundsException();
        }
    }

    private static void state(boolean fits) {
        if (!fits) {
            throw new IllegalStateException();
        }
    }

    private static boolean within(int value, int least, int most) {
        return value >= least && value <= most;
    }

    private Body bodyOf(int body) {
        index(within(body, 0, came.size() - 1));
        return came.get(body);
    }

    private List<Body> laneOf(int lane) {
        index(within(lane, 0, laneCount - 1));
        return lanes.get(lane);
    }

    int begin(int newLanes, int newDepth, int newStore) {
        argument(within(newLanes, 1, 5) && within(newDepth, 1, 6) && within(newStore, 1, 6));
        int before = came.size();
        laneCount = newLanes;
        depth = newDepth;
        storeRoom = newStore;
        begin();
        return before;
    }

    int setRules(int entry, int exit) {
        argument(within(entry, 0, 2) && within(exit, 0, 2));
        entryRule = entry;
        exitRule = exit;
        return 0;
    }

    private List<Integer> lanesWithRoom() {
        List<Integer> open = new ArrayList<>();
        for (int lane = 0; lane < laneCount; lane++) {
            if (lanes.get(lane).size() < depth) {
                open.add(lane);
            }
        }
        return open;
    }

    private int entryLane(int colour) {
        List<Integer> open = lanesWithRoom();
        state(!open.isEmpty());
        if (entryRule == 2) {
            open.sort(Comparator.comparing(lane -> (lane - latestLane - 1 + 2 * laneCount) % laneCount));
            return open.get(0);
        }
        if (entryRule == 1) {
            for (int lane : open) {
                List<Body> row = lanes.get(lane);
                if (!row.isEmpty() && row.get(row.size() - 1).colour == colour) {
                    return lane;
                }
            }
        }
        open.sort(Comparator.comparing(lane -> lanes.get(lane).size() * 10 + lane));
        return open.get(0);
    }

    private int enter(Body body, int lane) {
        lanes.get(lane).add(body);
        latestLane = lane;
        return lane;
    }

    private Body newBody(int colour) {
        Body body = new Body(came.size(), colour);
        came.add(body);
        return body;
    }

    int arrive(int colour) {
        argument(within(colour, 0, 4));
        state(came.size() < 99);
        int lane = entryLane(colour);
        return enter(newBody(colour), lane);
    }

    int arriveIn(int colour, int lane) {
        argument(within(colour, 0, 4));
        state(laneOf(lane).size() < depth && came.size() < 99);
        enter(newBody(colour), lane);
        return came.size() - 1;
    }

    private int releaseHead(int lane) {
        state(store.size() < storeRoom);
        Body head = lanes.get(lane).remove(0);
        store.add(head);
        releases.add(head);
        return head.number;
    }

    private int latestColour() {
        return releases.isEmpty() ? -1 : releases.get(releases.size() - 1).colour;
    }

    int release() {
        List<Integer> heads = new ArrayList<>();
        for (int lane = 0; lane < laneCount; lane++) {
            if (!lanes.get(lane).isEmpty()) {
                heads.add(lane);
            }
        }
        state(!heads.isEmpty());
        heads.sort(Comparator.comparing(lane -> lanes.get(lane).get(0).number));
        List<Integer> alike = new ArrayList<>(heads);
        alike.removeIf(lane -> lanes.get(lane).get(0).colour != latestColour());
        if (exitRule > 0 && !alike.isEmpty()) {
            return releaseHead(alike.get(0));
        }
        if (exitRule == 2) {
            heads.sort(Comparator.comparing(lane -> -block(lane)));
        }
        return releaseHead(heads.get(0));
    }

    int releaseFrom(int lane) {
        state(!laneOf(lane).isEmpty());
        return releaseHead(lane);
    }

    int releaseBest() {
        state(inLanes() > 0 && inLanes() <= 12 && store.size() < storeRoom);
        int best = -1;
        int fewest = Integer.MAX_VALUE;
        for (int lane = 0; lane < laneCount; lane++) {
            if (!lanes.get(lane).isEmpty()) {
                Body head = lanes.get(lane).remove(0);
                int needed = (latestColour() == -1 || latestColour() == head.colour ? 0 : 1)
                    + search(head.colour);
                lanes.get(lane).add(0, head);
                if (needed < fewest) {
                    fewest = needed;
                    best = lane;
                }
            }
        }
        return releaseHead(best);
    }

    int sendBack(int body) {
        Body sent = bodyOf(body);
        state(store.remove(sent));
        repair.add(sent);
        return repair.size();
    }

    int reenter(int body) {
        Body back = bodyOf(body);
        state(repair.contains(back));
        int lane = entryLane(back.colour);
        repair.remove(back);
        return enter(back, lane);
    }

    int assemble() {
        state(!store.isEmpty());
        store.sort(Comparator.comparing(Body::number));
        assembled.add(store.remove(0));
        return assembled.get(assembled.size() - 1).number;
    }

    int bodies() {
        return came.size();
    }

    int colour(int body) {
        return bodyOf(body).colour;
    }

    int where(int body) {
        Body asked = bodyOf(body);
        for (int lane = 0; lane < laneCount; lane++) {
            if (lanes.get(lane).contains(asked)) {
                return lane;
            }
        }
        return store.contains(asked) ? 10 : repair.contains(asked) ? 11 : 12;
    }

    int inLane(int lane) {
        return laneOf(lane).size();
    }

    int bodyAt(int lane, int place) {
        index(within(place, 0, laneOf(lane).size() - 1));
        return lanes.get(lane).get(place).number;
    }

    int block(int lane) {
        List<Body> row = laneOf(lane);
        int length = 0;
        for (Body body : row) {
            if (body.colour != row.get(0).colour) {
                break;
            }
            length++;
        }
        return length;
    }

    int stored() {
        return store.size();
    }

    int changes() {
        int changes = 0;
        for (int at = 1; at < releases.size(); at++) {
            changes += releases.get(at).colour == releases.get(at - 1).colour ? 0 : 1;
        }
        return changes;
    }

    int released() {
        return releases.size();
    }

    int assembledAt(int position) {
        index(within(position, 0, assembled.size() - 1));
        return assembled.get(position).number;
    }

    int lateness(int body) {
        int position = assembled.indexOf(bodyOf(body));
        state(position >= 0);
        return position - body;
    }

    int worstLateness() {
        int worst = 0;
        for (Body body : assembled) {
            worst = Math.max(worst, lateness(body.number));
        }
        return worst;
    }

    private int inLanes() {
        int count = 0;
        for (List<Body> row : lanes) {
            count += row.size();
        }
        return count;
    }

    int fewestChanges() {
        state(inLanes() <= 12);
        return search(latestColour());
    }

    int fewestByAll() {
        state(inLanes() <= 8);
        return search(latestColour());
    }

    /**
     * By blocks: a colour is chosen and every head of that colour taken as long as there is one,
     * which costs no change and so never harms.
     */
    private int search(int latest) {
        int[] taken = new int[laneCount];
        Map<Integer, Integer> known = new HashMap<>();
        if (latest == -1) {
            int left = byBlocks(taken, known);
            return left == 0 ? 0 : left - 1;
        }
        takeAll(taken, latest);
        return byBlocks(taken, known);
    }

    private void takeAll(int[] taken, int colour) {
        for (int lane = 0; lane < laneCount; lane++) {
            List<Body> row = lanes.get(lane);
            while (taken[lane] < row.size() && row.get(taken[lane]).colour == colour) {
                taken[lane]++;
            }
        }
    }

    private int byBlocks(int[] taken, Map<Integer, Integer> known) {
        int key = 0;
        int left = 0;
        for (int lane = 0; lane < laneCount; lane++) {
            key = key * 7 + taken[lane];
            left += lanes.get(lane).size() - taken[lane];
        }
        if (left == 0) {
            return 0;
        }
        Integer told = known.get(key);
        if (told != null) {
            return told;
        }
        int fewest = Integer.MAX_VALUE;
        for (int colour = 0; colour < 5; colour++) {
            int[] next = taken.clone();
            takeAll(next, colour);
            if (!java.util.Arrays.equals(next, taken)) {
                fewest = Math.min(fewest, 1 + byBlocks(next, known));
            }
        }
        known.put(key, fewest);
        return fewest;
    }
}
