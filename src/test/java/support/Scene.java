/** Objects in the states that the tests begin from; each call makes the same one anew. */
final class Scene {
    static final int[] FAR = {Integer.MIN_VALUE, Integer.MAX_VALUE};

    private Scene() { }

    static PaintSequencer begun(int lanes, int depth, int store) {
        PaintSequencer x = new PaintSequencer();
        x.begin(lanes, depth, store);
        return x;
    }

    /** Fills the lanes with colours, a digit each, the head first; the bodies come lane by lane. */
    static PaintSequencer filled(int depth, int store, String... rows) {
        PaintSequencer x = begun(rows.length, depth, store);
        for (int lane = 0; lane < rows.length; lane++) {
            fill(x, lane, rows[lane]);
        }
        return x;
    }

    static void fill(PaintSequencer x, int lane, String colours) {
        for (char colour : colours.toCharArray()) {
            x.arriveIn(colour - '0', lane);
        }
    }

    static PaintSequencer withRules(PaintSequencer x, int entry, int exit) {
        x.setRules(entry, exit);
        return x;
    }

    /** Body 0 is assembled, 1 in repair, 4 in the store; 2 and 6, 3, and 5 are in the lanes. */
    static PaintSequencer busy() {
        PaintSequencer x = filled(3, 3, "012", "1", "34");
        x.releaseFrom(0);
        x.assemble();
        x.releaseFrom(0);
        x.sendBack(1);
        x.releaseFrom(2);
        x.arriveIn(4, 0);
        return withRules(x, 2, 1);
    }

    /** The lanes are full of 2 and 5, 3 and 4, the store is full of 1, and 0 is in repair. */
    static PaintSequencer packed() {
        PaintSequencer x = filled(2, 1, "0", "");
        x.release();
        x.sendBack(0);
        fill(x, 0, "12");
        fill(x, 1, "13");
        x.release();
        fill(x, 0, "4");
        return withRules(x, 1, 2);
    }

    /** Nothing is in the lanes or in the store: 0 is assembled, 1 in repair. */
    static PaintSequencer bare() {
        PaintSequencer x = filled(2, 2, "0", "3");
        x.release();
        x.assemble();
        x.release();
        x.sendBack(1);
        return withRules(x, 1, 1);
    }

    /** The lanes are empty and the store is full. */
    static PaintSequencer drained() {
        PaintSequencer x = filled(2, 2, "0", "3");
        x.release();
        x.release();
        return withRules(x, 2, 2);
    }

    /** 99 bodies came; 12 are left in lanes that have room, and the rest is assembled. */
    static PaintSequencer spent() {
        PaintSequencer x = begun(5, 6, 6);
        for (int body = 0; body < 99; body++) {
            x.arrive(body % 5);
            if (body >= 12) {
                x.release();
                x.assemble();
            }
        }
        return withRules(x, 2, 1);
    }

    /** Thirteen bodies are in lanes, one is in a store for two. */
    static PaintSequencer thirteen() {
        PaintSequencer x = filled(6, 2, "2012", "01234", "43210");
        x.releaseFrom(0);
        return withRules(x, 2, 2);
    }

    /** Nine bodies are in lanes, one is in a store for two. */
    static PaintSequencer nine() {
        PaintSequencer x = filled(6, 2, "2012", "012", "432");
        x.releaseFrom(0);
        return withRules(x, 1, 1);
    }
}
