/**
 * The document's limits, each reached and passed by one. Those on edges, points
 * and hot places take more calls than the 512 that are promised.
 */
public final class LimitTest {
    private static final Checks CHECKS = new Checks();

    public static void main(String[] args) {
        mostEdges();
        mostPoints();
        mostPieces();
        mostSteps();
        mostHotPlaces();
        manyCrossingsAtFewPlaces();
        newPlacesBehindManyCrossings();
        tooManyPlacesBehindManyCrossings();
        CHECKS.end();
    }

    private static void mostEdges() {
        HotCells cells = new HotCells();
        for (int e = 0; e < 2000; e++) {
            CHECKS.due("edge " + e, cells.edge(0, e, 1, e), e);
        }
        CHECKS.due("edge 2000", cells.edge(0, 2000, 1, 2000), -12);
        CHECKS.due("edge 2000 out of bounds", cells.edge(0, 500001, 1, 2000), -1);
        CHECKS.due("edge 2000 of one place", cells.edge(0, 0, 0, 0), -1);
        CHECKS.due("point beside 2000 edges", cells.point(0, 0), 1);
        CHECKS.due("lay() 2000 edges", cells.lay(), 2000);
        CHECKS.due("way(1999)", cells.way(1999), 2);
        CHECKS.due("way(2000)", cells.way(2000), -1);
        cells.clear();
        CHECKS.due("edge after clear", cells.edge(0, 0, 1, 0), 0);
    }

    private static void mostPoints() {
        HotCells cells = new HotCells();
        for (int p = 1; p <= 1000; p++) {
            CHECKS.due("point " + p, cells.point(p / 2, 0), p);
        }
        CHECKS.due("point 1001", cells.point(0, 0), -12);
        CHECKS.due("point 1001 out of bounds", cells.point(500001, 0), -1);
        CHECKS.due("edge beside 1000 points", cells.edge(0, 0, 500, 0), 0);
        CHECKS.due("lay() 1000 points", cells.lay(), 500);
        cells.clear();
        CHECKS.due("point after clear", cells.point(0, 0), 1);
    }

    private static void grid(HotCells cells, int level, int upright) {
        for (int i = 0; i < level; i++) {
            cells.edge(-1, i, upright, i);
        }
        for (int i = 0; i < upright; i++) {
            cells.edge(i, level, i, -1);
        }
    }

    private static void dueStays(String name, HotCells cells, int nodes, int pieces, int lastWay) {
        int ways = 0;
        while (cells.way(ways) >= 0) {
            ways++;
        }
        CHECKS.due(name + ": nodes()", cells.nodes(), nodes);
        CHECKS.due(name + ": pieces()", cells.pieces(), pieces);
        CHECKS.due(name + ": the last way", cells.way(ways - 1), lastWay);
    }

    private static void mostPieces() {
        HotCells cells = new HotCells();
        grid(cells, 23, 191);
        CHECKS.due("lay() 9000 pieces", cells.lay(), 9000);
        dueStays("9000 pieces", cells, 23 * 191 + 2 * (23 + 191), 9000, 25);
        int middle = cells.find(7, 7);
        cells.edge(1000, 0, 1001, 0);
        CHECKS.due("lay() 9001 pieces", cells.lay(), -12);
        dueStays("9001 pieces", cells, 23 * 191 + 2 * (23 + 191), 9000, 25);
        CHECKS.due("find after -12", cells.find(7, 7), middle);
        CHECKS.due("find of what is not laid", cells.find(1000, 0), -1);
        CHECKS.due("edge after -12", cells.edge(0, 0, 9, 9), 215);
        cells.clear();
        cells.edge(1, 1, 2, 2);
        CHECKS.due("lay() after -12 and clear", cells.lay(), 1);
        dueStays("after -12 and clear", cells, 2, 1, 2);
    }

    private static void mostSteps() {
        HotCells cells = new HotCells();
        for (int x = 1; x < 200; x++) {
            cells.point(x, 0);
        }
        for (int e = 0; e < 100; e++) {
            cells.edge(e % 2 == 0 ? 0 : 200, 0, e % 2 == 0 ? 200 : 0, 0);
        }
        CHECKS.due("lay() 20000 steps", cells.lay(), 200);
        dueStays("20000 steps", cells, 201, 200, 201);
        CHECKS.due("edges along the last piece", cells.piece(199, 2), 100);
        cells.edge(0, 9, 1, 9);
        CHECKS.due("lay() 20001 steps", cells.lay(), -12);
        dueStays("20001 steps", cells, 201, 200, 201);
        CHECKS.due("edges along a piece after -12", cells.piece(7, 2), 100);
        cells.edge(0, 0, 200, 0);
        CHECKS.due("lay() 20201 steps", cells.lay(), -12);
        dueStays("20201 steps", cells, 201, 200, 201);
    }

    private static void mostHotPlaces() {
        HotCells cells = new HotCells();
        grid(cells, 50, 50);
        for (int e = 0; e < 1150; e++) {
            cells.edge(1000, e, 1001, e);
        }
        for (int p = 0; p < 1000; p++) {
            cells.point(2000, p);
        }
        CHECKS.due("lay() 6000 hot places", cells.lay(), 6250);
        CHECKS.due("nodes() 6000", cells.nodes(), 6000);
        CHECKS.due("node(5999, 1)", cells.node(5999, 1), 999);
        cells.edge(1000, 0, 1002, 7);
        CHECKS.due("lay() 6001 hot places", cells.lay(), -12);
        CHECKS.due("nodes() stays", cells.nodes(), 6000);
        CHECKS.due("pieces() stays", cells.pieces(), 6250);
        CHECKS.due("way(1250) stays none", cells.way(1250), -1);
        CHECKS.due("way(1249) stays", cells.way(1249), 2);
    }

    /** More crossings than any row holds, all at one place; then far too many places. */
    private static void manyCrossingsAtFewPlaces() {
        HotCells cells = new HotCells();
        star(cells, 500);
        CHECKS.due("lay() a star of 500", cells.lay(), 1000);
        CHECKS.due("nodes() of the star", cells.nodes(), 1001);
        CHECKS.due("way(499) of the star", cells.way(499), 3);
        cells.clear();
        for (int i = 0; i < 500; i++) {
            cells.edge(i, 0, 3 * i * i % 1009, 1000);
        }
        CHECKS.due("lay() of too many crossings", cells.lay(), -12);
        CHECKS.due("nodes() stays", cells.nodes(), 1001);
    }

    private static void star(HotCells cells, int edges) {
        for (int i = 1; i <= edges; i++) {
            cells.edge(-400000, -i, 400000, i);
        }
    }

    /** The last edge's crossings come when far more than any row holds have come before. */
    private static void newPlacesBehindManyCrossings() {
        HotCells cells = new HotCells();
        star(cells, 400);
        cells.edge(200000, -1, 200000, 500);
        CHECKS.due("lay() a crossed star", cells.lay(), 400 + 200 + 201 + 400);
        CHECKS.due("nodes() of the crossed star", cells.nodes(), 800 + 1 + 2 + 200);
        CHECKS.due("way(0) of the crossed star", cells.way(0), 4);
        CHECKS.due("way(2) of the crossed star", cells.way(2), 5);
        CHECKS.due("way(399) of the crossed star", cells.way(399), 4);
        CHECKS.due("way(400) of the crossed star", cells.way(400), 202);
    }

    /** The pieces and the steps would fit here, so the hot places alone are too many. */
    private static void tooManyPlacesBehindManyCrossings() {
        HotCells cells = new HotCells();
        cells.edge(0, 0, 1, 0);
        cells.lay();
        cells.clear();
        grid(cells, 40, 40);
        for (int e = 0; e < 1720; e++) {
            cells.edge(e, 1000, e, 1001);
        }
        for (int p = 0; p < 1000; p++) {
            cells.point(p, 2000);
        }
        for (int i = 1; i <= 200; i++) {
            cells.edge(-400000, -400000 - i, 400000, -400000 + i);
        }
        CHECKS.due("lay() of 6601 hot places", cells.lay(), -12);
        CHECKS.due("nodes() stays", cells.nodes(), 2);
    }
}
