import java.util.List;

/**
 * Promises 1 to 12: each sentence that names a boundary has a method here that
 * tries both of its sides, beside the ordinary inputs. Answers of full objects
 * and of too large layings (-12) are in LimitTest.
 */
public final class PromiseTest {
    private static final Checks CHECKS = new Checks();
    private static final int LEAST = Integer.MIN_VALUE;
    private static final int MOST = Integer.MAX_VALUE;

    public static void main(String[] args) {
        newWithoutEdges();
        newWithoutPoints();
        newWithNothingLaid();
        newApartFromOthers();
        edgeItsNumber();
        edgeOutOfBounds();
        edgeOfOnePlace();
        edgeRefusedLeavesAll();
        pointHowMany();
        pointOfTwoBothCount();
        pointOutOfBounds();
        pointRefusedLeavesAll();
        clearNoEdgesAnyMore();
        clearNoPointsAnyMore();
        clearWhatIsLaidStays();
        layHowManyPieces();
        layOfNothing();
        layOfPointsAlone();
        layAgain();
        nodesHowMany();
        nodesBefore();
        nodeXAndY();
        nodeNone();
        nodeNoAxis();
        findTheNode();
        findNone();
        piecesHowMany();
        piecesBefore();
        pieceItsThree();
        pieceNone();
        pieceNoWhat();
        wayHowManyNodes();
        wayAsItWasLaid();
        wayNone();
        wayNodeFromTheBegin();
        wayNodeNone();
        CHECKS.end();
    }

    private static void due(String call, long got, long want) {
        CHECKS.due(call, got, want);
    }

    private static HotCells laid(int... ends) {
        return Checks.laid(ends);
    }

    // Promise 1: No edges,
    private static void newWithoutEdges() {
        HotCells cells = new HotCells();
        due("lay() of a new object", cells.lay(), 0);
        CHECKS.dueNothing("new, laid", cells);
        due("the first edge", cells.edge(0, 0, 1, 0), 0);
        due("lay() of the first edge", cells.lay(), 1);
        due("the second edge", cells.edge(0, 0, 1, 0), 1);
    }

    // no points,
    private static void newWithoutPoints() {
        HotCells cells = new HotCells();
        due("the first point", cells.point(0, 0), 1);
        due("lay() of the first point", cells.lay(), 0);
        CHECKS.dueNodes("the first point", cells, 0, 0);
        due("the second point", cells.point(0, 0), 2);
    }

    // nothing laid.
    private static void newWithNothingLaid() {
        CHECKS.dueNothing("new", new HotCells());
        CHECKS.dueNodes("new", new HotCells());
        CHECKS.duePieces("new", new HotCells());
        HotCells cells = new HotCells();
        cells.edge(0, 0, 1, 0);
        cells.point(0, 0);
        CHECKS.dueNothing("new, not laid yet", cells);
    }

    private static void newApartFromOthers() {
        HotCells used = laid(0, 0, 1, 0);
        used.point(0, 0);
        HotCells cells = new HotCells();
        CHECKS.dueNothing("new beside a used one", cells);
        due("the first edge beside a used one", cells.edge(5, 5, 6, 6), 0);
        due("the first point beside a used one", cells.point(5, 5), 1);
        cells.lay();
        CHECKS.dueNodes("the used one", used, 0, 0, 1, 0);
        CHECKS.dueNodes("the new one", cells, 5, 5, 6, 6);
    }

    // Promise 2: One more edge: its number.
    private static void edgeItsNumber() {
        HotCells cells = new HotCells();
        due("edge", cells.edge(0, 0, 4, 0), 0);
        due("edge the same again", cells.edge(0, 0, 4, 0), 1);
        due("edge the other way round", cells.edge(4, 0, 0, 0), 2);
        due("point between", cells.point(9, 9), 1);
        due("edge behind a point", cells.edge(0, 3, 0, 4), 3);
        due("lay()", cells.lay(), 2);
        due("edge behind lay()", cells.edge(0, 3, 0, 5), 4);
        due("all edges are laid", cells.lay(), 3);
        due("way(4)", cells.way(4), 3);
    }

    // -1 a place is out of bounds,
    private static void edgeOutOfBounds() {
        HotCells cells = new HotCells();
        for (int out : new int[] {500001, -500001, LEAST, MOST}) {
            due("edge x1 " + out, cells.edge(out, 0, 1, 1), -1);
            due("edge y1 " + out, cells.edge(0, out, 1, 1), -1);
            due("edge x2 " + out, cells.edge(0, 0, out, 1), -1);
            due("edge y2 " + out, cells.edge(0, 0, 1, out), -1);
            due("edge of one place, out " + out, cells.edge(out, 0, out, 0), -1);
        }
        due("edge to the bounds", cells.edge(-500000, -500000, 500000, 500000), 0);
        due("edge to the bounds", cells.edge(500000, -500000, -500000, 500000), 1);
    }

    // or both are the same;
    private static void edgeOfOnePlace() {
        HotCells cells = new HotCells();
        due("edge of one place", cells.edge(4, 5, 4, 5), -1);
        due("edge with one x", cells.edge(4, 5, 4, 6), 0);
        due("edge with one y", cells.edge(4, 5, 5, 5), 1);
        due("edge with x and y changed", cells.edge(4, 5, 5, 4), 2);
        due("edge of 0, 0", cells.edge(0, 0, 0, 0), -1);
    }

    private static void edgeRefusedLeavesAll() {
        HotCells cells = laid(0, 0, 4, 0);
        List<Integer> before = Checks.answers(cells);
        cells.edge(2, 2, 2, 2);
        cells.edge(2, 2, 2, 500001);
        cells.edge(500001, 2, 2, 2);
        CHECKS.dueStays("refused edges", cells, before);
        due("lay() behind refused edges", cells.lay(), 1);
        CHECKS.dueStays("refused edges are not laid", cells, before);
        due("the number behind refused edges", cells.edge(0, 1, 1, 1), 1);
        due("the points behind refused edges", cells.point(0, 1), 1);
    }

    // Promise 3: One more point: how many.
    private static void pointHowMany() {
        HotCells cells = new HotCells();
        due("point", cells.point(3, 4), 1);
        due("edge between", cells.edge(0, 0, 1, 1), 0);
        due("point behind an edge", cells.point(4, 3), 2);
        cells.lay();
        due("point behind lay()", cells.point(5, 3), 3);
        CHECKS.dueNodes("laid before the third point", cells, 0, 0, 1, 1, 3, 4, 4, 3);
        cells.lay();
        CHECKS.dueNodes("all points are laid", cells, 0, 0, 1, 1, 3, 4, 4, 3, 5, 3);
    }

    // (of two at one place both count)
    private static void pointOfTwoBothCount() {
        HotCells cells = new HotCells();
        due("point", cells.point(3, 4), 1);
        due("point the same again", cells.point(3, 4), 2);
        due("point once more", cells.point(3, 4), 3);
        due("point at another place", cells.point(3, 5), 4);
        cells.edge(0, 0, 3, 0);
        due("point at the end of an edge", cells.point(3, 0), 5);
    }

    // -1 out of bounds,
    private static void pointOutOfBounds() {
        HotCells cells = new HotCells();
        for (int out : new int[] {500001, -500001, LEAST, MOST}) {
            due("point x " + out, cells.point(out, 0), -1);
            due("point y " + out, cells.point(0, out), -1);
        }
        due("point at the bounds", cells.point(500000, -500000), 1);
        due("point at the bounds", cells.point(-500000, 500000), 2);
        due("lay()", cells.lay(), 0);
        CHECKS.dueNodes("points at the bounds", cells, -500000, 500000, 500000, -500000);
    }

    private static void pointRefusedLeavesAll() {
        HotCells cells = laid(0, 0, 4, 0);
        List<Integer> before = Checks.answers(cells);
        cells.point(500001, 0);
        cells.point(2, -500001);
        cells.lay();
        CHECKS.dueStays("refused points", cells, before);
        due("how many behind refused points", cells.point(0, 1), 1);
        due("the edges behind refused points", cells.edge(0, 1, 1, 1), 1);
    }

    // Promise 4: No edges any more,
    private static void clearNoEdgesAnyMore() {
        HotCells cells = new HotCells();
        cells.clear();
        due("edge behind clear() of nothing", cells.edge(0, 0, 1, 0), 0);
        due("edge", cells.edge(0, 5, 1, 5), 1);
        cells.clear();
        cells.clear();
        due("edge behind clear()", cells.edge(8, 8, 9, 9), 0);
        due("lay() behind clear()", cells.lay(), 1);
        CHECKS.dueNodes("laid behind clear()", cells, 8, 8, 9, 9);
        due("way(1) behind clear()", cells.way(1), -1);
        cells.clear();
        due("lay() of nothing behind clear()", cells.lay(), 0);
        CHECKS.dueNothing("laid nothing behind clear()", cells);
    }

    // and no points;
    private static void clearNoPointsAnyMore() {
        HotCells cells = new HotCells();
        cells.clear();
        due("point behind clear() of nothing", cells.point(0, 0), 1);
        due("point", cells.point(3, 3), 2);
        cells.clear();
        due("point behind clear()", cells.point(7, 7), 1);
        cells.lay();
        CHECKS.dueNodes("laid behind clear()", cells, 7, 7);
    }

    // what is laid stays.
    private static void clearWhatIsLaidStays() {
        HotCells cells = new HotCells();
        cells.clear();
        CHECKS.dueNothing("new, cleared", cells);
        cells.edge(0, 0, 6, 0);
        cells.point(3, 0);
        due("lay()", cells.lay(), 2);
        cells.clear();
        CHECKS.dueNodes("cleared", cells, 0, 0, 3, 0, 6, 0);
        CHECKS.dueWay("cleared", cells, 0, 0, 0, 3, 0, 6, 0);
        CHECKS.duePieces("cleared", cells, 0, 1, 1, 1, 2, 1);
        due("find cleared", cells.find(3, 0), 1);
    }

    // Promise 5: Lays all edges and points: how many pieces.
    private static void layHowManyPieces() {
        HotCells cells = new HotCells();
        cells.edge(0, 0, 10, 0);
        due("lay() one edge", cells.lay(), 1);
        cells.edge(5, 5, 5, -5);
        due("lay() crossed", cells.lay(), 4);
        CHECKS.dueWay("crossed", cells, 0, 0, 0, 5, 0, 10, 0);
        CHECKS.dueWay("crossed", cells, 1, 5, 5, 5, 0, 5, -5);
        cells.point(2, 0);
        due("lay() with a point on an edge", cells.lay(), 5);
        cells.point(7, 1);
        due("lay() with a point beside the edges", cells.lay(), 5);
        cells.edge(20, 0, 30, 1);
        due("lay() with an edge apart", cells.lay(), 6);
        cells.point(24, 0);
        cells.point(26, 1);
        due("lay() bent to points", cells.lay(), 8);
        CHECKS.dueWay("bent", cells, 2, 20, 0, 24, 0, 26, 1, 30, 1);
    }

    private static void layOfNothing() {
        HotCells cells = new HotCells();
        due("lay() of nothing", cells.lay(), 0);
        cells.edge(0, 0, 1, 1);
        due("lay() of one edge", cells.lay(), 1);
        cells.clear();
        due("lay() of nothing any more", cells.lay(), 0);
        CHECKS.dueNothing("nothing any more", cells);
    }

    private static void layOfPointsAlone() {
        HotCells cells = new HotCells();
        cells.point(0, 0);
        due("lay() of one point", cells.lay(), 0);
        cells.point(1, 0);
        due("lay() of two points", cells.lay(), 0);
        due("nodes()", cells.nodes(), 2);
        CHECKS.duePieces("points alone", cells);
        due("way(0)", cells.way(0), -1);
    }

    private static void layAgain() {
        HotCells cells = laid(0, 0, 9, 6, 0, 6, 9, 1, 4, 4, 4, -4);
        List<Integer> before = Checks.answers(cells);
        due("lay() again", cells.lay(), cells.pieces());
        CHECKS.dueStays("laid again", cells, before);
        due("lay() once more", cells.lay(), cells.pieces());
        CHECKS.dueStays("laid once more", cells, before);
    }

    // Promise 6: How many nodes are laid;
    private static void nodesHowMany() {
        HotCells cells = laid(0, 0, 1, 0);
        due("nodes() of one edge", cells.nodes(), 2);
        cells.point(5, 5);
        due("nodes() before the point is laid", cells.nodes(), 2);
        cells.lay();
        due("nodes() with the point", cells.nodes(), 3);
        cells.point(5, 5);
        cells.lay();
        due("nodes() with a point at the same place", cells.nodes(), 3);
        cells.clear();
        due("nodes() cleared", cells.nodes(), 3);
        cells.lay();
        due("nodes() of nothing", cells.nodes(), 0);
    }

    // 0 before.
    private static void nodesBefore() {
        HotCells cells = new HotCells();
        due("nodes() of a new object", cells.nodes(), 0);
        cells.edge(0, 0, 1, 0);
        cells.point(5, 5);
        due("nodes() before lay()", cells.nodes(), 0);
        cells.lay();
        due("nodes() behind lay()", cells.nodes(), 3);
    }

    // Promise 7: Of node n: x (0) or y (1);
    private static void nodeXAndY() {
        HotCells cells = laid(5, 0, -6, 9);
        due("node(0, 0)", cells.node(0, 0), -6);
        due("node(0, 1)", cells.node(0, 1), 9);
        due("node(1, 0)", cells.node(1, 0), 5);
        due("node(1, 1)", cells.node(1, 1), 0);
    }

    // 1000000 if there is none.
    private static void nodeNone() {
        HotCells cells = new HotCells();
        due("node(0, 0) of a new object", cells.node(0, 0), 1000000);
        cells.edge(5, 0, -6, 9);
        due("node(0, 1) before lay()", cells.node(0, 1), 1000000);
        cells.lay();
        for (int n : new int[] {-1, 2, 3, LEAST, MOST}) {
            due("node(" + n + ", 0)", cells.node(n, 0), 1000000);
            due("node(" + n + ", 1)", cells.node(n, 1), 1000000);
        }
        cells.clear();
        cells.point(5, 0);
        cells.lay();
        due("node(0, 0) of the next laying", cells.node(0, 0), 5);
        due("node(1, 0) of the laying before", cells.node(1, 0), 1000000);
    }

    private static void nodeNoAxis() {
        HotCells cells = laid(5, 0, -6, 9);
        for (int axis : new int[] {-1, 2, LEAST, MOST}) {
            due("node(0, " + axis + ")", cells.node(0, axis), 1000000);
            due("node(1, " + axis + ")", cells.node(1, axis), 1000000);
        }
    }

    // Promise 8: The node at a place;
    private static void findTheNode() {
        HotCells cells = laid(-3, 2, 4, -5, -3, -5, 4, 2);
        cells.point(500000, 500000);
        cells.point(-500000, -500000);
        cells.lay();
        for (int n = 0; n < cells.nodes(); n++) {
            due("find node " + n, cells.find(cells.node(n, 0), cells.node(n, 1)), n);
        }
        due("find the first", cells.find(-500000, -500000), 0);
        due("find a crossing", cells.find(1, -1), 3);
        due("find the last", cells.find(500000, 500000), 6);
    }

    // -1 if there is none.
    private static void findNone() {
        HotCells cells = new HotCells();
        due("find in a new object", cells.find(0, 0), -1);
        cells.edge(-3, 2, 4, -5);
        cells.edge(-3, -5, 4, 2);
        cells.point(500000, 500000);
        due("find before lay()", cells.find(-3, 2), -1);
        cells.lay();
        for (int[] beside : new int[][] {{1, 0}, {1, -2}, {0, -1}, {2, -1}, {-3, 1}, {-3, -6}, {4, 3},
            {2, -3}, {0, 0}}) {
            due("find(" + beside[0] + ", " + beside[1] + ")", cells.find(beside[0], beside[1]), -1);
        }
        due("find above the last", cells.find(500000, 500001), -1);
        due("find behind the last", cells.find(500001, 500000), -1);
        due("find before the first", cells.find(-3, -500001), -1);
        due("find one column on", cells.find(-4, 999996), -1);
        due("find one column on", cells.find(-4, 1000003), -1);
        due("find one column back", cells.find(5, -1000006), -1);
        due("find far out", cells.find(LEAST, MOST), -1);
        due("find far out", cells.find(MOST, LEAST), -1);
        cells.point(9, 9);
        due("find what is not laid yet", cells.find(9, 9), -1);
    }

    // Promise 9: How many pieces are laid;
    private static void piecesHowMany() {
        HotCells cells = laid(0, 0, 2, 2);
        due("pieces() of one edge", cells.pieces(), 1);
        cells.edge(0, 2, 2, 0);
        due("pieces() before the second is laid", cells.pieces(), 1);
        due("lay()", cells.lay(), 4);
        due("pieces() of two edges", cells.pieces(), 4);
        cells.clear();
        due("pieces() cleared", cells.pieces(), 4);
        cells.lay();
        due("pieces() of nothing", cells.pieces(), 0);
    }

    // 0 before.
    private static void piecesBefore() {
        HotCells cells = new HotCells();
        due("pieces() of a new object", cells.pieces(), 0);
        cells.edge(0, 0, 1, 0);
        due("pieces() before lay()", cells.pieces(), 0);
        cells.lay();
        due("pieces() behind lay()", cells.pieces(), 1);
    }

    private static HotCells star() {
        return laid(2, 2, 0, 0, 0, 0, 2, 2, 0, 4, 4, 0, 2, 2, 4, 4, 0, 0, 0, 4);
    }

    // Promise 10: Of piece p: its lesser node (0), the other one (1), how many edges go along it (2);
    private static void pieceItsThree() {
        CHECKS.dueNodes("star", star(), 0, 0, 0, 4, 2, 2, 4, 0, 4, 4);
        CHECKS.duePieces("star", star(), 0, 1, 1, 0, 2, 2, 1, 2, 1, 2, 3, 1, 2, 4, 1);
    }

    // -1 if there is none.
    private static void pieceNone() {
        HotCells cells = new HotCells();
        due("piece(0, 0) of a new object", cells.piece(0, 0), -1);
        cells.edge(0, 0, 1, 0);
        due("piece(0, 1) before lay()", cells.piece(0, 1), -1);
        for (int p : new int[] {-1, 5, 6, LEAST, MOST}) {
            for (int what = 0; what < 3; what++) {
                due("piece(" + p + ", " + what + ")", star().piece(p, what), -1);
            }
        }
        cells = star();
        cells.clear();
        cells.edge(0, 0, 1, 0);
        cells.lay();
        due("piece(0, 2) of the next laying", cells.piece(0, 2), 1);
        due("piece(1, 2) of the laying before", cells.piece(1, 2), -1);
    }

    private static void pieceNoWhat() {
        HotCells cells = star();
        for (int what : new int[] {-1, 3, LEAST, MOST}) {
            due("piece(0, " + what + ")", cells.piece(0, what), -1);
            due("piece(4, " + what + ")", cells.piece(4, what), -1);
        }
    }

    private static HotCells threeWays() {
        return laid(9, 0, 0, 0, 3, 3, 3, -3, 6, 0, 2, 0);
    }

    // Promise 11: How many nodes the way of edge e has,
    private static void wayHowManyNodes() {
        HotCells cells = threeWays();
        due("way(0)", cells.way(0), 5);
        due("way(1)", cells.way(1), 3);
        due("way(2)", cells.way(2), 3);
        due("the least that a way has", laid(0, 0, 1, 0).way(0), 2);
        cells.edge(0, 9, 0, 8);
        cells.lay();
        due("way(3)", cells.way(3), 2);
    }

    // as it was laid;
    private static void wayAsItWasLaid() {
        HotCells cells = laid(0, 0, 9, 0);
        cells.point(4, 0);
        due("way(0) before the point is laid", cells.way(0), 2);
        cells.clear();
        cells.edge(5, 5, 5, 6);
        CHECKS.dueWay("as it was laid", cells, 0, 0, 0, 9, 0);
        cells.lay();
        CHECKS.dueWay("as it is laid now", cells, 0, 5, 5, 5, 6);
    }

    // -1 if there was none.
    private static void wayNone() {
        HotCells cells = new HotCells();
        due("way(0) of a new object", cells.way(0), -1);
        cells.edge(0, 0, 9, 0);
        due("way(0) before lay()", cells.way(0), -1);
        cells.lay();
        cells.edge(0, 1, 9, 1);
        due("way(0)", cells.way(0), 2);
        due("way(1) of an edge that came behind lay()", cells.way(1), -1);
        cells = threeWays();
        for (int e : new int[] {-1, 3, 4, LEAST, MOST}) {
            due("way(" + e + ")", cells.way(e), -1);
        }
        cells.clear();
        due("way(2) behind clear()", cells.way(2), 3);
        cells.lay();
        due("way(0) of nothing", cells.way(0), -1);
    }

    // Promise 12: Node k of it (0 where the edge begins);
    private static void wayNodeFromTheBegin() {
        HotCells cells = threeWays();
        CHECKS.dueNodes("ways", cells, 0, 0, 2, 0, 3, -3, 3, 0, 3, 3, 6, 0, 9, 0);
        CHECKS.dueWay("ways", cells, 0, 9, 0, 6, 0, 3, 0, 2, 0, 0, 0);
        CHECKS.dueWay("ways", cells, 1, 3, 3, 3, 0, 3, -3);
        CHECKS.dueWay("ways", cells, 2, 6, 0, 3, 0, 2, 0);
        due("wayNode(0, 0)", cells.wayNode(0, 0), 6);
        due("wayNode(0, 4)", cells.wayNode(0, 4), 0);
        due("wayNode(1, 0)", cells.wayNode(1, 0), 4);
        due("wayNode(2, 2)", cells.wayNode(2, 2), 1);
    }

    // -1 if there is none.
    private static void wayNodeNone() {
        HotCells cells = new HotCells();
        due("wayNode(0, 0) of a new object", cells.wayNode(0, 0), -1);
        cells.edge(0, 0, 9, 0);
        due("wayNode(0, 0) before lay()", cells.wayNode(0, 0), -1);
        cells.lay();
        cells.edge(0, 1, 9, 1);
        due("wayNode(1, 0) of an edge that came behind lay()", cells.wayNode(1, 0), -1);
        cells = threeWays();
        for (int k : new int[] {-1, -3, LEAST, MOST}) {
            for (int e = 0; e < 3; e++) {
                due("wayNode(" + e + ", " + k + ")", cells.wayNode(e, k), -1);
            }
        }
        due("wayNode(0, 5)", cells.wayNode(0, 5), -1);
        due("wayNode(1, 3)", cells.wayNode(1, 3), -1);
        due("wayNode(2, 3)", cells.wayNode(2, 3), -1);
        for (int e : new int[] {-1, 3, LEAST, MOST}) {
            due("wayNode(" + e + ", 0)", cells.wayNode(e, 0), -1);
            due("wayNode(" + e + ", -1)", cells.wayNode(e, -1), -1);
            due("wayNode(" + e + ", MOST)", cells.wayNode(e, MOST), -1);
        }
    }
}
