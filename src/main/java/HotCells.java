import java.util.Arrays;

/**
 * Bends straight edges between whole-number places through the cells of all
 * places where they end or cross.
 */
public final class HotCells {
    private static final int BOUND = 500000;
    private static final long COLUMN = 1000001L;
    private static final int MOST_EDGES = 2000;
    private static final int MOST_POINTS = 1000;
    private static final int MOST_NODES = 6000;
    private static final int MOST_PIECES = 9000;
    private static final int MOST_STEPS = 20000;
    /** As many as the steps, and more than the ends, the points and one edge's crossings. */
    private static final int MOST_KEYS = MOST_STEPS;
    private static final int NONE = -1;
    private static final int FULL = -12;
    private static final int NO_COORDINATE = 1000000;

    private final Places starts;
    private final Places ends;
    private final Places points;
    private final Keys keys;
    private Layout laid;
    /** The next laying is worked out here, so that a refused one leaves what was laid. */
    private Layout spare;

    public HotCells() {
        starts = new Places();
        ends = new Places();
        points = new Places();
        keys = new Keys();
        laid = new Layout();
        spare = new Layout();
    }

    public int edge(int x1, int y1, int x2, int y2) {
        if (!inBounds(x1, y1) || !inBounds(x2, y2) || (x1 == x2 && y1 == y2)) {
            return NONE;
        }
        if (starts.count >= MOST_EDGES) {
            return FULL;
        }
        starts.add(x1, y1);
        ends.add(x2, y2);
        return starts.count - 1;
    }

    public int point(int x, int y) {
        if (!inBounds(x, y)) {
            return NONE;
        }
        if (points.count >= MOST_POINTS) {
            return FULL;
        }
        points.add(x, y);
        return points.count;
    }

    public void clear() {
        starts.count = 0;
        ends.count = 0;
        points.count = 0;
    }

    public int lay() {
        if (!gatherHotPlaces()) {
            return FULL;
        }
        spare.takeNodes(keys);
        if (!spare.takeWays(starts, ends)) {
            return FULL;
        }
        spare.listSteps(keys);
        if (!spare.takePieces(keys)) {
            return FULL;
        }
        Layout old = laid;
        laid = spare;
        spare = old;
        return laid.pieceCount;
    }

    public int nodes() {
        return laid.hot.count;
    }

    public int node(int n, int axis) {
        if (n < 0 || n >= laid.hot.count) {
            return NO_COORDINATE;
        }
        if (axis == 0) {
            return laid.hot.x[n];
        }
        return axis == 1 ? laid.hot.y[n] : NO_COORDINATE;
    }

    public int find(int x, int y) {
        Places hot = laid.hot;
        int n = hot.firstNotBelow(x, y);
        return n < hot.count && hot.x[n] == x && hot.y[n] == y ? n : NONE;
    }

    public int pieces() {
        return laid.pieceCount;
    }

    public int piece(int p, int what) {
        if (p < 0 || p >= laid.pieceCount) {
            return NONE;
        }
        switch (what) {
            case 0:
                return laid.pieceLesser[p];
            case 1:
                return laid.pieceOther[p];
            case 2:
                return laid.pieceEdges[p];
            default:
                return NONE;
        }
    }

    public int way(int e) {
        if (e < 0 || e >= laid.wayCount) {
            return NONE;
        }
        return laid.wayFrom[e + 1] - laid.wayFrom[e];
    }

    public int wayNode(int e, int k) {
        if (e < 0 || e >= laid.wayCount || k < 0) {
            return NONE;
        }
        int from = laid.wayFrom[e];
        return k < laid.wayFrom[e + 1] - from ? laid.wayRow[from + k] : NONE;
    }

    private static boolean inBounds(int x, int y) {
        return x >= -BOUND && x <= BOUND && y >= -BOUND && y <= BOUND;
    }

    /** Puts the keys of all hot places into keys, in order, each once; false if they are too many. */
    private boolean gatherHotPlaces() {
        keys.count = 0;
        heatAll(starts);
        heatAll(ends);
        heatAll(points);
        for (int e = 1; e < starts.count; e++) {
            heatCrossings(e);
            // What is kept leaves room for all that one more edge can heat.
            if (keys.count > MOST_KEYS - MOST_EDGES && !settleHotPlaces()) {
                return false;
            }
        }
        return settleHotPlaces();
    }

    private boolean settleHotPlaces() {
        keys.sort();
        keys.dropDoubles();
        return keys.count <= MOST_NODES;
    }

    private void heatAll(Places places) {
        for (int i = 0; i < places.count; i++) {
            heat(places.x[i], places.y[i]);
        }
    }

    private void heat(long x, long y) {
        keys.add((x + BOUND) * COLUMN + (y + BOUND));
    }

    /** Heats the places that an edge has in common with the edges before it. */
    private void heatCrossings(int e) {
        for (int other = 0; other < e; other++) {
            heatCrossing(e, other);
        }
    }

    /** Heats the one place that two edges of different straight lines have in common, if there is one. */
    private void heatCrossing(int a, int b) {
        long dx = ends.x[a] - starts.x[a];
        long dy = ends.y[a] - starts.y[a];
        long otherDx = ends.x[b] - starts.x[b];
        long otherDy = ends.y[b] - starts.y[b];
        long gapX = starts.x[b] - starts.x[a];
        long gapY = starts.y[b] - starts.y[a];
        long turn = dx * otherDy - dy * otherDx;
        long along = gapX * otherDy - gapY * otherDx;
        long otherAlong = gapX * dy - gapY * dx;
        if (turn < 0) {
            turn = -turn;
            along = -along;
            otherAlong = -otherAlong;
        }
        if (turn == 0 || along < 0 || along > turn || otherAlong < 0 || otherAlong > turn) {
            return;
        }
        // The place lies along/turn of the way from the first edge's start to its
        // end. Nothing here passes 2 * 2e12 * 1e6 + 2e12, so the longs are exact.
        heat(starts.x[a] + Math.floorDiv(2 * along * dx + turn, 2 * turn),
             starts.y[a] + Math.floorDiv(2 * along * dy + turn, 2 * turn));
    }

    /** Rows grow with use alone, so that a small object takes little of the room. */
    private static int[] withRoom(int[] row, int needed) {
        return needed <= row.length ? row : Arrays.copyOf(row, Math.max(needed, 2 * row.length));
    }

    /** A list of places. */
    private static final class Places {
        int count = 0;
        int[] x = new int[16];
        int[] y = new int[16];

        void add(int newX, int newY) {
            makeRoom(count + 1);
            x[count] = newX;
            y[count] = newY;
            count++;
        }

        void makeRoom(int needed) {
            x = withRoom(x, needed);
            y = withRoom(y, needed);
        }

        /** Of places in order, the first that is not lesser than (soughtX, soughtY); count if all are. */
        int firstNotBelow(int soughtX, int soughtY) {
            int low = 0;
            int high = count;
            while (low < high) {
                int middle = (low + high) / 2;
                if (x[middle] < soughtX || (x[middle] == soughtX && y[middle] < soughtY)) {
                    low = middle + 1;
                } else {
                    high = middle;
                }
            }
            return low;
        }
    }

    /** Numbers that stand for hot places or for steps while they are brought into order. */
    private static final class Keys {
        int count = 0;
        long[] row = new long[64];

        void add(long key) {
            if (count >= MOST_KEYS) {
                return;
            }
            if (count >= row.length) {
                row = Arrays.copyOf(row, Math.min(MOST_KEYS, 2 * row.length));
            }
            row[count] = key;
            count++;
        }

        void sort() {
            for (int top = count / 2 - 1; top >= 0; top--) {
                sink(top, count);
            }
            for (int last = count - 1; last > 0; last--) {
                long greatest = row[0];
                row[0] = row[last];
                row[last] = greatest;
                sink(0, last);
            }
        }

        /** Lets the key at a place of the heap row[0 .. end) sink below all that are greater. */
        private void sink(int place, int end) {
            long key = row[place];
            int hole = place;
            int child = 2 * hole + 1;
            while (child < end) {
                if (child + 1 < end && row[child + 1] > row[child]) {
                    child++;
                }
                if (row[child] <= key) {
                    break;
                }
                row[hole] = row[child];
                hole = child;
                child = 2 * hole + 1;
            }
            row[hole] = key;
        }

        void dropDoubles() {
            int kept = 0;
            for (int i = 0; i < count; i++) {
                if (kept == 0 || row[kept - 1] != row[i]) {
                    row[kept] = row[i];
                    kept++;
                }
            }
            count = kept;
        }
    }

    /** What one laying made: nodes, ways and pieces. */
    private static final class Layout {
        final Places hot = new Places();
        int wayCount = 0;
        int wayLength = 0;
        /** The way of edge e stands in wayRow from wayFrom[e] on up to before wayFrom[e + 1]. */
        int[] wayFrom = new int[16];
        int[] wayRow = new int[32];
        int pieceCount = 0;
        int[] pieceLesser = new int[16];
        int[] pieceOther = new int[16];
        int[] pieceEdges = new int[16];

        void takeNodes(Keys keys) {
            hot.makeRoom(keys.count);
            hot.count = keys.count;
            for (int n = 0; n < keys.count; n++) {
                hot.x[n] = (int) (keys.row[n] / COLUMN) - BOUND;
                hot.y[n] = (int) (keys.row[n] % COLUMN) - BOUND;
            }
        }

        /** Finds the ways of all edges; false if they have too many steps. */
        boolean takeWays(Places starts, Places ends) {
            wayCount = 0;
            wayLength = 0;
            wayFrom = withRoom(wayFrom, starts.count + 1);
            wayFrom[0] = 0;
            boolean fits = true;
            for (int e = 0; fits && e < starts.count; e++) {
                fits = takeWay(starts.x[e], starts.y[e], ends.x[e], ends.y[e]);
            }
            return fits;
        }

        private boolean takeWay(int x1, int y1, int x2, int y2) {
            int begin = wayLength;
            if (!gatherCells(x1, y1, x2, y2)) {
                return false;
            }
            // The nodes came by x, then y; a straight edge passes its cells
            // by x and by y too, each up or down, so turning rows round is
            // enough to have them by their projections.
            if ((x1 < x2 && y1 > y2) || (x1 > x2 && y1 < y2)) {
                turnColumns(begin);
            }
            if (x1 > x2 || (x1 == x2 && y1 > y2)) {
                turnRow(begin, wayLength);
            }
            wayCount++;
            wayFrom[wayCount] = wayLength;
            return true;
        }

        /** Adds the nodes whose cells the edge has a place in, the lesser first. */
        private boolean gatherCells(int x1, int y1, int x2, int y2) {
            long dx = x2 - x1;
            long dy = y2 - y1;
            long reach = Math.abs(dx) + Math.abs(dy);
            int highX = Math.max(x1, x2);
            int lowY = Math.min(y1, y2);
            int highY = Math.max(y1, y2);
            int n = hot.firstNotBelow(Math.min(x1, x2), lowY);
            for (; n < hot.count && hot.x[n] <= highX; n++) {
                int y = hot.y[n];
                if (y < lowY || y > highY) {
                    continue;
                }
                // Twice how far the cell's middle is off the edge's line; the
                // line meets the inside of the cell when that is below reach,
                // and of its corners the lower left alone is the cell's own.
                long off = 2 * (dx * (y - y1) - dy * (hot.x[n] - x1));
                boolean meets = Math.abs(off) < reach || off == dx - dy;
                if (meets && !addToWay(n)) {
                    return false;
                }
            }
            return true;
        }

        private boolean addToWay(int n) {
            // A way has one node more than steps, and so has each way before it.
            if (wayLength - wayCount > MOST_STEPS) {
                return false;
            }
            wayRow = withRoom(wayRow, wayLength + 1);
            wayRow[wayLength] = n;
            wayLength++;
            return true;
        }

        /** Turns round, from begin on, each run of nodes that have one x. */
        private void turnColumns(int begin) {
            int from = begin;
            for (int i = begin + 1; i <= wayLength; i++) {
                if (i == wayLength || hot.x[wayRow[i]] != hot.x[wayRow[from]]) {
                    turnRow(from, i);
                    from = i;
                }
            }
        }

        private void turnRow(int from, int end) {
            int high = end - 1;
            for (int low = from; low < high; low++) {
                int n = wayRow[low];
                wayRow[low] = wayRow[high];
                wayRow[high] = n;
                high--;
            }
        }

        /** Puts the keys of all steps of all ways into keys, in order. */
        void listSteps(Keys keys) {
            keys.count = 0;
            for (int e = 0; e < wayCount; e++) {
                for (int i = wayFrom[e] + 1; i < wayFrom[e + 1]; i++) {
                    long lesser = Math.min(wayRow[i - 1], wayRow[i]);
                    keys.add(lesser * MOST_NODES + Math.max(wayRow[i - 1], wayRow[i]));
                }
            }
            keys.sort();
        }

        /** Makes a piece of all steps of one key; false if the pieces are too many. */
        boolean takePieces(Keys keys) {
            int many = countUnlike(keys);
            if (many > MOST_PIECES) {
                return false;
            }
            pieceLesser = withRoom(pieceLesser, many);
            pieceOther = withRoom(pieceOther, many);
            pieceEdges = withRoom(pieceEdges, many);
            pieceCount = 0;
            int from = 0;
            for (int i = 1; i <= keys.count; i++) {
                if (i == keys.count || keys.row[i] != keys.row[from]) {
                    pieceLesser[pieceCount] = (int) (keys.row[from] / MOST_NODES);
                    pieceOther[pieceCount] = (int) (keys.row[from] % MOST_NODES);
                    pieceEdges[pieceCount] = i - from;
                    pieceCount++;
                    from = i;
                }
            }
            return true;
        }

        private static int countUnlike(Keys keys) {
            int many = 0;
            for (int i = 0; i < keys.count; i++) {
                if (i == 0 || keys.row[i] != keys.row[i - 1]) {
                    many++;
                }
            }
            return many;
        }
    }
}
