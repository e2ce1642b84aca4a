/** Each promise of the document: ordinary inputs, the edges it names, wrong inputs. */
public final class PromiseTest {
    private static final Checks CHECKS = new Checks();

    public static void main(String[] args) {
        newObject();
        edgeNumbers();
        pointCounts();
        clearing();
        laying();
        roundingOfCrossings();
        whatDoesNotCross();
        cellBorders();
        orderOfWays();
        nodesInOrder();
        finding();
        piecesInOrder();
        waysAndTheirNodes();
        largeCoordinates();
        CHECKS.end();
    }

    private static void due(String call, long got, long want) {
        CHECKS.due(call, got, want);
    }

    private static void dueNodes(String name, HotCells cells, int... places) {
        due(name + ": nodes()", cells.nodes(), places.length / 2);
        for (int n = 0; n < places.length / 2; n++) {
            due(name + ": node(" + n + ", 0)", cells.node(n, 0), places[2 * n]);
            due(name + ": node(" + n + ", 1)", cells.node(n, 1), places[2 * n + 1]);
        }
    }

    /** The places that the way of an edge must have, in order. */
    private static void dueWay(String name, HotCells cells, int e, int... places) {
        due(name + ": way(" + e + ")", cells.way(e), places.length / 2);
        for (int k = 0; k < places.length / 2; k++) {
            int n = cells.wayNode(e, k);
            due(name + ": wayNode(" + e + ", " + k + ") x", cells.node(n, 0), places[2 * k]);
            due(name + ": wayNode(" + e + ", " + k + ") y", cells.node(n, 1), places[2 * k + 1]);
        }
        due(name + ": wayNode behind the end", cells.wayNode(e, places.length / 2), -1);
    }

    private static void duePieces(String name, HotCells cells, int... rows) {
        due(name + ": pieces()", cells.pieces(), rows.length / 3);
        for (int p = 0; p < rows.length / 3; p++) {
            for (int what = 0; what < 3; what++) {
                due(name + ": piece(" + p + ", " + what + ")", cells.piece(p, what), rows[3 * p + what]);
            }
        }
        due(name + ": piece behind the end", cells.piece(rows.length / 3, 0), -1);
    }

    private static void dueNothing(String name, HotCells cells) {
        due(name + ": nodes()", cells.nodes(), 0);
        due(name + ": node(0, 0)", cells.node(0, 0), 1000000);
        due(name + ": node(0, 1)", cells.node(0, 1), 1000000);
        due(name + ": find(0, 0)", cells.find(0, 0), -1);
        due(name + ": pieces()", cells.pieces(), 0);
        due(name + ": piece(0, 0)", cells.piece(0, 0), -1);
        due(name + ": way(0)", cells.way(0), -1);
        due(name + ": wayNode(0, 0)", cells.wayNode(0, 0), -1);
    }

    // Promise 1
    private static void newObject() {
        HotCells cells = new HotCells();
        dueNothing("new", cells);
        due("new: lay()", cells.lay(), 0);
        dueNothing("new, laid", cells);
        due("new: first edge", cells.edge(0, 0, 1, 0), 0);
        due("new: first point", cells.point(0, 0), 1);
    }

    // Promise 2
    private static void edgeNumbers() {
        HotCells cells = new HotCells();
        due("edge 0", cells.edge(0, 0, 4, 0), 0);
        due("edge of one place", cells.edge(4, 5, 4, 5), -1);
        due("edge x1 high", cells.edge(500001, 0, 0, 0), -1);
        due("edge y1 high", cells.edge(0, 500001, 0, 0), -1);
        due("edge x2 high", cells.edge(0, 0, 500001, 0), -1);
        due("edge y2 high", cells.edge(0, 0, 0, 500001), -1);
        due("edge x1 low", cells.edge(-500001, 0, 0, 0), -1);
        due("edge y1 low", cells.edge(0, -500001, 0, 0), -1);
        due("edge x2 low", cells.edge(0, 0, -500001, 0), -1);
        due("edge y2 low", cells.edge(0, 0, 0, -500001), -1);
        due("edge far out", cells.edge(Integer.MIN_VALUE, Integer.MAX_VALUE, 0, 0), -1);
        due("edge far out", cells.edge(0, 0, Integer.MAX_VALUE, Integer.MIN_VALUE), -1);
        due("edge to the bounds", cells.edge(-500000, -500000, 500000, 500000), 1);
        due("edge to the bounds", cells.edge(500000, -500000, -500000, 500000), 2);
        due("edge the same again", cells.edge(0, 0, 4, 0), 3);
        due("edge with one x", cells.edge(7, 1, 7, 2), 4);
        due("edge lays nothing", cells.nodes(), 0);
        due("edge has no way before it is laid", cells.way(0), -1);
        due("lay()", cells.lay(), 6);
        due("way(4)", cells.way(4), 2);
        due("way(5)", cells.way(5), -1);
    }

    // Promise 3
    private static void pointCounts() {
        HotCells cells = new HotCells();
        due("point 1", cells.point(3, 4), 1);
        due("point x high", cells.point(500001, 0), -1);
        due("point x low", cells.point(-500001, 0), -1);
        due("point y high", cells.point(0, 500001), -1);
        due("point y low", cells.point(0, -500001), -1);
        due("point far out", cells.point(Integer.MIN_VALUE, Integer.MAX_VALUE), -1);
        due("point the same again", cells.point(3, 4), 2);
        due("point at the bounds", cells.point(500000, -500000), 3);
        due("point at the bounds", cells.point(-500000, 500000), 4);
        due("point lays nothing", cells.nodes(), 0);
        due("lay()", cells.lay(), 0);
        dueNodes("points", cells, -500000, 500000, 3, 4, 500000, -500000);
    }

    // Promise 4
    private static void clearing() {
        HotCells cells = new HotCells();
        cells.clear();
        dueNothing("new, cleared", cells);
        cells.edge(0, 0, 6, 0);
        cells.point(3, 0);
        due("lay()", cells.lay(), 2);
        cells.clear();
        dueNodes("cleared", cells, 0, 0, 3, 0, 6, 0);
        dueWay("cleared", cells, 0, 0, 0, 3, 0, 6, 0);
        duePieces("cleared", cells, 0, 1, 1, 1, 2, 1);
        due("edges start anew", cells.edge(1, 1, 2, 2), 0);
        due("points start anew", cells.point(9, 9), 1);
        dueWay("not laid yet", cells, 0, 0, 0, 3, 0, 6, 0);
        due("lay()", cells.lay(), 1);
        dueNodes("laid anew", cells, 1, 1, 2, 2, 9, 9);
        dueWay("laid anew", cells, 0, 1, 1, 2, 2);
        cells.clear();
        due("lay() of nothing", cells.lay(), 0);
        dueNothing("laid nothing", cells);
    }

    // Promise 5
    private static void laying() {
        HotCells cells = new HotCells();
        cells.edge(0, 0, 10, 0);
        due("lay() one edge", cells.lay(), 1);
        due("lay() again", cells.lay(), 1);
        cells.edge(5, 5, 5, -5);
        due("what is laid stays", cells.pieces(), 1);
        due("the new edge has no way", cells.way(1), -1);
        due("lay() crossed", cells.lay(), 4);
        dueWay("crossed", cells, 0, 0, 0, 5, 0, 10, 0);
        dueWay("crossed", cells, 1, 5, 5, 5, 0, 5, -5);
        cells.point(2, 0);
        due("lay() with a point on an edge", cells.lay(), 5);
        cells.point(7, 1);
        due("lay() with a point beside the edges", cells.lay(), 5);
        cells.edge(20, 0, 30, 1);
        due("lay() with an edge apart", cells.lay(), 6);
        cells.point(24, 0);
        cells.point(26, 1);
        due("lay() bent to points", cells.lay(), 8);
        dueWay("bent", cells, 2, 20, 0, 24, 0, 26, 1, 30, 1);
    }

    private static HotCells laid(int... ends) {
        HotCells cells = new HotCells();
        for (int i = 0; i < ends.length; i += 4) {
            cells.edge(ends[i], ends[i + 1], ends[i + 2], ends[i + 3]);
        }
        cells.lay();
        return cells;
    }

    /** A half is rounded up, below nothing too. */
    private static void roundingOfCrossings() {
        dueNodes("at 1/2, 1/2", laid(0, 0, 1, 1, 0, 1, 1, 0), 0, 0, 0, 1, 1, 0, 1, 1);
        dueWay("at 1/2, 1/2", laid(0, 0, 1, 1, 0, 1, 1, 0), 0, 0, 0, 1, 1);
        dueWay("at 1/2, 1/2", laid(0, 0, 1, 1, 0, 1, 1, 0), 1, 0, 1, 1, 1, 1, 0);
        dueNodes("at 5/2, 5/2", laid(0, 0, 5, 5, 0, 5, 5, 0), 0, 0, 0, 5, 3, 3, 5, 0, 5, 5);
        dueNodes("at -5/2, -5/2", laid(0, 0, -5, -5, 0, -5, -5, 0), -5, -5, -5, 0, -2, -2, 0, -5, 0, 0);
        dueNodes("at 10/3, 10/3", laid(0, 0, 10, 10, 0, 5, 10, 0), 0, 0, 0, 5, 3, 3, 10, 0, 10, 10);
        dueNodes("at -10/3, 0", laid(-10, 0, 0, 0, -3, -1, -4, 2), -10, 0, -4, 2, -3, -1, -3, 0, 0, 0);
    }

    private static void whatDoesNotCross() {
        dueNodes("in one line", laid(0, 0, 6, 3, 2, 1, 10, 5), 0, 0, 2, 1, 6, 3, 10, 5);
        duePieces("in one line", laid(0, 0, 6, 3, 2, 1, 10, 5), 0, 1, 1, 1, 2, 2, 2, 3, 1);
        dueNodes("beside one another", laid(0, 0, 6, 3, 0, 2, 6, 5), 0, 0, 0, 2, 6, 3, 6, 5);
        dueNodes("one end in common", laid(0, 0, 6, 3, 6, 3, 7, 9), 0, 0, 6, 3, 7, 9);
        dueNodes("an end on the other", laid(0, 0, 6, 4, 3, 2, 9, 0), 0, 0, 3, 2, 6, 4, 9, 0);
        duePieces("an end on the other", laid(0, 0, 6, 4, 3, 2, 9, 0), 0, 1, 1, 1, 2, 1, 1, 3, 1);
        dueNodes("lines that cross behind", laid(0, 0, 4, 4, 9, 0, 6, 3), 0, 0, 4, 4, 6, 3, 9, 0);
        dueNodes("lines that cross before", laid(4, 4, 9, 9, 0, 1, 1, 0), 0, 1, 1, 0, 4, 4, 9, 9);
    }

    private static HotCells edgeWithPoint(int x2, int y2, int x, int y) {
        HotCells cells = new HotCells();
        cells.edge(0, 0, x2, y2);
        cells.point(x, y);
        cells.lay();
        return cells;
    }

    /** A cell has its left and its lower border, and of its corners the lower left alone. */
    private static void cellBorders() {
        due("lower left corner", edgeWithPoint(3, -3, 2, -1).way(0), 3);
        due("upper right corner", edgeWithPoint(3, -3, 1, -2).way(0), 2);
        due("upper left corner", edgeWithPoint(3, 3, 2, 1).way(0), 2);
        due("lower right corner", edgeWithPoint(3, 3, 1, 2).way(0), 2);
        due("lower left corner, backwards", edgeWithPoint(-3, 3, -1, 2).way(0), 3);
        due("upper right corner, backwards", edgeWithPoint(-3, 3, -2, 1).way(0), 2);
        due("corner (1/2, 3/2), its own cell", edgeWithPoint(1, 3, 1, 2).way(0), 3);
        due("corner (1/2, 3/2), the cell below it", edgeWithPoint(1, 3, 1, 1).way(0), 2);
        due("corner (1/2, 3/2), the cell left of it", edgeWithPoint(1, 3, 0, 2).way(0), 2);
        due("the cell before the corner", edgeWithPoint(1, 3, 0, 1).way(0), 3);
        due("half a cell beside a level edge", edgeWithPoint(9, 0, 4, 1).way(0), 2);
        due("on a level edge", edgeWithPoint(9, 0, 4, 0).way(0), 3);
        due("on an upright edge", edgeWithPoint(0, 9, 0, 4).way(0), 3);
        due("before the start of an edge", edgeWithPoint(0, 9, 0, -1).way(0), 2);
        due("behind the end of an edge", edgeWithPoint(9, 9, 10, 10).way(0), 2);
        due("in the line before the start", edgeWithPoint(9, 9, -1, -1).way(0), 2);
        due("just inside", edgeWithPoint(1000, 499, 1, 0).way(0), 3);
        due("just outside", edgeWithPoint(1000, 501, 1, 1).way(0), 3);
        due("just above the border", edgeWithPoint(1000, 499, 0, 1).way(0), 2);
    }

    private static HotCells steepEdge(int x1, int y1, int x2, int y2) {
        HotCells cells = new HotCells();
        cells.edge(x1, y1, x2, y2);
        for (int x = -2; x <= 2; x++) {
            for (int y = -6; y <= 6; y++) {
                cells.point(x, y);
            }
        }
        cells.lay();
        return cells;
    }

    /** By the projections: from the start on, up or down in columns. */
    private static void orderOfWays() {
        dueWay("right and up", steepEdge(0, 0, 1, 4), 0, 0, 0, 0, 1, 0, 2, 1, 2, 1, 3, 1, 4);
        dueWay("left and down", steepEdge(1, 4, 0, 0), 0, 1, 4, 1, 3, 1, 2, 0, 2, 0, 1, 0, 0);
        dueWay("right and down", steepEdge(0, 4, 1, 0), 0, 0, 4, 0, 3, 0, 2, 1, 2, 1, 1, 1, 0);
        dueWay("left and up", steepEdge(1, 0, 0, 4), 0, 1, 0, 1, 1, 1, 2, 0, 2, 0, 3, 0, 4);
        dueWay("up", steepEdge(0, -1, 0, 2), 0, 0, -1, 0, 0, 0, 1, 0, 2);
        dueWay("down", steepEdge(0, 2, 0, -1), 0, 0, 2, 0, 1, 0, 0, 0, -1);
        dueWay("right", steepEdge(-1, 0, 2, 0), 0, -1, 0, 0, 0, 1, 0, 2, 0);
        dueWay("left", steepEdge(2, 0, -1, 0), 0, 2, 0, 1, 0, 0, 0, -1, 0);
        dueWay("two columns down", steepEdge(-1, 5, 1, -5), 0, -1, 5, -1, 4, -1, 3, 0, 3, 0, 2, 0, 1, 0, 0,
            0, -1, 0, -2, 1, -2, 1, -3, 1, -4, 1, -5);
    }

    // Promises 6 and 7
    private static void nodesInOrder() {
        HotCells cells = new HotCells();
        cells.point(5, -7);
        cells.point(-5, 7);
        cells.point(5, -8);
        cells.point(-5, 7);
        cells.edge(5, 0, -6, 9);
        due("nodes() before", cells.nodes(), 0);
        cells.lay();
        dueNodes("nodes", cells, -6, 9, -5, 7, 5, -8, 5, -7, 5, 0);
        due("node(-1, 0)", cells.node(-1, 0), 1000000);
        due("node(5, 0)", cells.node(5, 0), 1000000);
        due("node(0, -1)", cells.node(0, -1), 1000000);
        due("node(0, 2)", cells.node(0, 2), 1000000);
        due("node(MIN, 0)", cells.node(Integer.MIN_VALUE, 0), 1000000);
        due("node(MAX, 1)", cells.node(Integer.MAX_VALUE, 1), 1000000);
    }

    // Promise 8
    private static void finding() {
        HotCells cells = new HotCells();
        cells.edge(-3, 2, 4, -5);
        cells.edge(-3, -5, 4, 2);
        cells.point(500000, 500000);
        cells.point(-500000, -500000);
        due("find before", cells.find(-3, 2), -1);
        cells.lay();
        for (int n = 0; n < cells.nodes(); n++) {
            due("find node " + n, cells.find(cells.node(n, 0), cells.node(n, 1)), n);
        }
        due("find a crossing", cells.find(1, -1), 3);
        due("find beside", cells.find(1, 0), -1);
        due("find beside", cells.find(0, -1), -1);
        due("find with x and y changed", cells.find(2, -3), -1);
        due("find behind the last", cells.find(500000, 500001), -1);
        due("find before the first", cells.find(-500001, 500000), -1);
        due("find one column on", cells.find(-499999, -1500001), -1);
        due("find far out", cells.find(Integer.MIN_VALUE, Integer.MAX_VALUE), -1);
        due("find far out", cells.find(Integer.MAX_VALUE, Integer.MIN_VALUE), -1);
        cells.point(9, 9);
        due("find what is not laid yet", cells.find(9, 9), -1);
    }

    // Promises 9 and 10
    private static void piecesInOrder() {
        HotCells cells = new HotCells();
        cells.edge(2, 2, 0, 0);
        cells.edge(0, 0, 2, 2);
        cells.edge(0, 4, 4, 0);
        cells.edge(2, 2, 4, 4);
        cells.edge(0, 0, 0, 4);
        due("pieces() before", cells.pieces(), 0);
        due("lay()", cells.lay(), 5);
        dueNodes("star", cells, 0, 0, 0, 4, 2, 2, 4, 0, 4, 4);
        duePieces("star", cells, 0, 1, 1, 0, 2, 2, 1, 2, 1, 2, 3, 1, 2, 4, 1);
        due("piece(-1, 0)", cells.piece(-1, 0), -1);
        due("piece(5, 2)", cells.piece(5, 2), -1);
        due("piece(0, -1)", cells.piece(0, -1), -1);
        due("piece(0, 3)", cells.piece(0, 3), -1);
        due("piece(MIN, 0)", cells.piece(Integer.MIN_VALUE, 0), -1);
        due("piece(MAX, 0)", cells.piece(Integer.MAX_VALUE, 0), -1);
    }

    // Promises 11 and 12
    private static void waysAndTheirNodes() {
        HotCells cells = laid(9, 0, 0, 0, 3, 3, 3, -3, 6, 0, 2, 0);
        dueWay("ways", cells, 0, 9, 0, 6, 0, 3, 0, 2, 0, 0, 0);
        dueWay("ways", cells, 1, 3, 3, 3, 0, 3, -3);
        dueWay("ways", cells, 2, 6, 0, 3, 0, 2, 0);
        due("way(-1)", cells.way(-1), -1);
        due("way(3)", cells.way(3), -1);
        due("way(MIN)", cells.way(Integer.MIN_VALUE), -1);
        due("way(MAX)", cells.way(Integer.MAX_VALUE), -1);
        due("wayNode(-1, 0)", cells.wayNode(-1, 0), -1);
        due("wayNode(3, 0)", cells.wayNode(3, 0), -1);
        due("wayNode(0, -1)", cells.wayNode(0, -1), -1);
        due("wayNode(1, -1)", cells.wayNode(1, -1), -1);
        due("wayNode(1, MAX)", cells.wayNode(1, Integer.MAX_VALUE), -1);
        due("wayNode(MAX, 0)", cells.wayNode(Integer.MAX_VALUE, 0), -1);
        due("wayNode(MIN, MIN)", cells.wayNode(Integer.MIN_VALUE, Integer.MIN_VALUE), -1);
    }

    /** Here a double would not tell a crossing's side of the half. */
    private static void largeCoordinates() {
        HotCells cells = laid(-500000, -500000, 500000, 499999, -500000, 499999, 500000, -500000);
        dueWay("wide", cells, 0, -500000, -500000, 0, 0, 500000, 499999);
        dueWay("wide", cells, 1, -500000, 499999, 0, 0, 500000, -500000);
        cells = laid(-500000, -500000, 500000, 499999, -499999, -500000, 500000, 499998);
        dueNodes("side by side", cells, -500000, -500000, -499999, -500000, 500000, 499998, 500000, 499999);
        dueWay("side by side", cells, 0, -500000, -500000, -499999, -500000, 500000, 499999);
        dueWay("side by side", cells, 1, -499999, -500000, 500000, 499998);
        cells = edgeWithPoint(499999, 500000, 250000, 250000);
        due("near the middle", cells.way(0), 3);
        cells = edgeWithPoint(499999, 500000, 249999, 250000);
        due("at the middle's corner", cells.way(0), 3);
    }
}
