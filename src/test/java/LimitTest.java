import java.util.List;

/**
 * "At most": each limit of the document, reached and passed by one, and what
 * stays when it is passed. Those on edges and points take more calls than the
 * 512 that are promised.
 */
public final class LimitTest {
    private static final Checks CHECKS = new Checks();

    public static void main(String[] args) {
        atMost2000Edges();
        atMost2000EdgesBehindClear();
        atMost1000Points();
        atMost1000PointsBehindClear();
        fullOfEdgesAndPoints();
        atMost9000Pieces();
        atMost20000Steps();
        atMost20000StepsOfFewPieces();
        atMost6000HotPlaces();
        atMost6000HotPlacesOf512Calls();
        hotPlacesCountOnce();
        tooManyHotPlacesOfPointsAlone();
        whatWasLaidStays();
        nothingLaidStays();
        layingGoesOnBehindRefusals();
        manyCrossingsAtFewPlaces();
        newPlacesBehindManyCrossings();
        tooManyPlacesBehindManyCrossings();
        CHECKS.end();
    }

    // EDGES, numbered from 0 (at most 2000). -12 there are 2000.
    private static void atMost2000Edges() {
        HotCells cells = new HotCells();
        for (int e = 0; e < 2000; e++) {
            CHECKS.due("edge " + e, cells.edge(0, e, 1, e), e);
        }
        CHECKS.due("edge 2000", cells.edge(0, 2000, 1, 2000), -12);
        CHECKS.due("edge 2000 once more", cells.edge(0, 0, 1, 0), -12);
        CHECKS.due("edge 2000 out of bounds", cells.edge(0, 500001, 1, 2000), -1);
        CHECKS.due("edge 2000 of one place", cells.edge(0, 0, 0, 0), -1);
        CHECKS.due("point beside 2000 edges", cells.point(0, 0), 1);
        CHECKS.due("lay() 2000 edges", cells.lay(), 2000);
        CHECKS.due("way(1999)", cells.way(1999), 2);
        CHECKS.due("way(2000)", cells.way(2000), -1);
        CHECKS.due("wayNode(1999, 1)", cells.wayNode(1999, 1), 3999);
        CHECKS.due("wayNode(2000, 0)", cells.wayNode(2000, 0), -1);
        CHECKS.due("edge 2000 behind lay()", cells.edge(0, 0, 1, 0), -12);
    }

    private static void atMost2000EdgesBehindClear() {
        HotCells cells = new HotCells();
        for (int round = 0; round < 2; round++) {
            for (int e = 0; e < 2000; e++) {
                CHECKS.due("edge " + e + " in round " + round, cells.edge(0, round, 1, e), e);
            }
            CHECKS.due("edge 2000 in round " + round, cells.edge(0, 0, 1, 0), -12);
            cells.clear();
        }
    }

    // POINTS (at most 1000). -12 there are 1000.
    private static void atMost1000Points() {
        HotCells cells = new HotCells();
        for (int p = 1; p <= 1000; p++) {
            CHECKS.due("point " + p, cells.point(p / 2, 0), p);
        }
        CHECKS.due("point 1001", cells.point(0, 7), -12);
        CHECKS.due("point 1001 at a point's place", cells.point(1, 0), -12);
        CHECKS.due("point 1001 out of bounds", cells.point(500001, 0), -1);
        CHECKS.due("edge beside 1000 points", cells.edge(0, 0, 500, 0), 0);
        CHECKS.due("lay() 1000 points", cells.lay(), 500);
        CHECKS.due("nodes() of 1000 points", cells.nodes(), 501);
        CHECKS.due("find the point that was refused", cells.find(0, 7), -1);
        CHECKS.due("point 1001 behind lay()", cells.point(0, 0), -12);
    }

    private static void atMost1000PointsBehindClear() {
        HotCells cells = new HotCells();
        for (int round = 0; round < 2; round++) {
            for (int p = 1; p <= 1000; p++) {
                CHECKS.due("point " + p + " in round " + round, cells.point(round, p), p);
            }
            CHECKS.due("point 1001 in round " + round, cells.point(0, 0), -12);
            cells.clear();
        }
    }

    private static void fullOfEdgesAndPoints() {
        HotCells cells = new HotCells();
        for (int e = 0; e < 2000; e++) {
            cells.edge(0, e, 1, e);
        }
        for (int p = 1; p <= 1000; p++) {
            CHECKS.due("point " + p + " beside 2000 edges", cells.point(2, p), p);
        }
        CHECKS.due("lay() 2000 edges and 1000 points", cells.lay(), 2000);
        CHECKS.due("nodes() of 2000 edges and 1000 points", cells.nodes(), 5000);
    }

    /** Edges that cross in level times upright places. */
    private static void grid(HotCells cells, int level, int upright) {
        for (int i = 0; i < level; i++) {
            cells.edge(-1, i, upright, i);
        }
        for (int i = 0; i < upright; i++) {
            cells.edge(i, level, i, -1);
        }
    }

    /** As many edges along one row of 201 nodes. */
    private static void row(HotCells cells, int edges) {
        for (int x = 1; x < 200; x++) {
            cells.point(x, 0);
        }
        for (int e = 0; e < edges; e++) {
            cells.edge(e % 2 == 0 ? 0 : 200, 0, e % 2 == 0 ? 200 : 0, 0);
        }
    }

    /** 6000 hot places: 2700 crossings, 2300 ends, 1000 points. */
    private static void manyHotPlaces(HotCells cells) {
        grid(cells, 50, 54);
        for (int e = 0; e < 1046; e++) {
            cells.edge(1000, e, 1001, e);
        }
        for (int p = 0; p < 1000; p++) {
            cells.point(2000, p);
        }
    }

    /** What is laid must be the same behind lay() that answers -12. */
    private static void dueRefused(String name, HotCells cells) {
        List<Integer> before = Checks.answers(cells);
        CHECKS.due("lay() " + name, cells.lay(), -12);
        CHECKS.dueStays(name, cells, before);
        CHECKS.due("lay() again " + name, cells.lay(), -12);
        CHECKS.dueStays(name + " again", cells, before);
    }

    // At most 9000 pieces: else -12.
    private static void atMost9000Pieces() {
        HotCells cells = new HotCells();
        grid(cells, 23, 191);
        CHECKS.due("lay() 9000 pieces", cells.lay(), 9000);
        CHECKS.due("pieces()", cells.pieces(), 9000);
        CHECKS.due("nodes()", cells.nodes(), 23 * 191 + 2 * (23 + 191));
        CHECKS.due("piece(8999, 2)", cells.piece(8999, 2), 1);
        CHECKS.due("piece(9000, 2)", cells.piece(9000, 2), -1);
        cells.edge(0, -1, 0, 0);
        CHECKS.due("lay() 9000 pieces and 9001 steps", cells.lay(), 9000);
        CHECKS.due("way(214)", cells.way(214), 2);
        cells.edge(1000, 0, 1001, 0);
        dueRefused("9001 pieces", cells);
        CHECKS.due("find of what is not laid", cells.find(1000, 0), -1);
        CHECKS.due("edge behind -12", cells.edge(0, 0, 9, 9), 216);
    }

    // At most 20000 steps of all ways: else -12.
    private static void atMost20000Steps() {
        HotCells cells = new HotCells();
        row(cells, 100);
        CHECKS.due("lay() 20000 steps", cells.lay(), 200);
        CHECKS.due("way(99)", cells.way(99), 201);
        CHECKS.due("wayNode(99, 200)", cells.wayNode(99, 200), 0);
        CHECKS.due("wayNode(99, 201)", cells.wayNode(99, 201), -1);
        CHECKS.due("edges along the last piece", cells.piece(199, 2), 100);
        cells.edge(0, 9, 1, 9);
        dueRefused("20001 steps", cells);
        cells.edge(0, 0, 200, 0);
        dueRefused("20201 steps", cells);
    }

    /** As above, but the step too many is in the midst of a way. */
    private static void atMost20000StepsOfFewPieces() {
        HotCells cells = new HotCells();
        row(cells, 99);
        cells.edge(0, 0, 199, 0);
        cells.edge(0, 0, 1, 0);
        CHECKS.due("lay() 20000 steps of 101 ways", cells.lay(), 200);
        CHECKS.due("edges along the first piece", cells.piece(0, 2), 101);
        cells.clear();
        row(cells, 99);
        cells.edge(0, 0, 199, 0);
        cells.edge(0, 0, 2, 0);
        dueRefused("20001 steps of 101 ways", cells);
    }

    // At most 6000 hot places: else -12.
    private static void atMost6000HotPlaces() {
        HotCells cells = new HotCells();
        manyHotPlaces(cells);
        CHECKS.due("lay() 6000 hot places", cells.lay(), 50 * 55 + 54 * 51 + 1046);
        CHECKS.due("nodes() 6000", cells.nodes(), 6000);
        CHECKS.due("node(5999, 0)", cells.node(5999, 0), 2000);
        CHECKS.due("node(5999, 1)", cells.node(5999, 1), 999);
        CHECKS.due("node(6000, 0)", cells.node(6000, 0), 1000000);
        CHECKS.due("find the last", cells.find(2000, 999), 5999);
        cells.edge(1000, 0, 1000, -1);
        dueRefused("6001 hot places", cells);
    }

    /**
     * Level edges, and edges of slopes 1/4 and -1/4, three of which cross in a
     * row of three hot places 41 * 41 times: so each hot place has few pieces.
     * There are 3 * 1681 hot places and the ends of 41 + 41 + 81 edges.
     */
    private static void rowsOfThree(HotCells cells) {
        for (int k = 0; k < 41; k++) {
            cells.edge(40 * k - 20, 10 * k, 40 * k + 3222, 10 * k);
        }
        for (int i = 0; i < 41; i++) {
            cells.edge(80 * i - 20, -5, 80 * i + 1620, 405);
        }
        for (int i = 0; i < 81; i++) {
            cells.edge(80 * i + 22, -5, 80 * i - 1618, 405);
        }
    }

    /** Within the calls that are promised, and with pieces and steps that would fit. */
    private static void atMost6000HotPlacesOf512Calls() {
        HotCells cells = new HotCells();
        rowsOfThree(cells);
        CHECKS.due("lay() rows of three", cells.lay(), 5 * 1681 + 163);
        CHECKS.due("nodes() of rows of three", cells.nodes(), 3 * 1681 + 2 * 163);
        for (int e = 0; e < 300; e++) {
            cells.edge(e, 1000, e, 1001);
        }
        for (int p = 0; p < 31; p++) {
            cells.point(p, 2000);
        }
        CHECKS.due("lay() 6000 hot places", cells.lay(), 5 * 1681 + 163 + 300);
        CHECKS.due("nodes() 6000", cells.nodes(), 6000);
        CHECKS.due("point", cells.point(31, 2000), 32);
        CHECKS.due("lay() 6001 hot places", cells.lay(), -12);
        CHECKS.due("nodes() 6000, as before", cells.nodes(), 6000);
        CHECKS.due("pieces(), as before", cells.pieces(), 5 * 1681 + 163 + 300);
        CHECKS.due("find of what is not laid", cells.find(31, 2000), -1);
        CHECKS.due("find of the last", cells.find(30, 2000) >= 0 ? 1 : 0, 1);
    }

    /** Unlike places are counted: of 6000 some are hot more than once. */
    private static void hotPlacesCountOnce() {
        HotCells cells = new HotCells();
        manyHotPlaces(cells);
        cells.edge(1000, 0, 1001, 0);
        cells.edge(1000, 0, 1000, 1);
        CHECKS.due("lay() 6000 hot places and doubles", cells.lay(), 50 * 55 + 54 * 51 + 1046 + 1);
        CHECKS.due("nodes() 6000 and doubles", cells.nodes(), 6000);
    }

    /** The last hot place is a point, so that no piece and no step comes with it. */
    private static void tooManyHotPlacesOfPointsAlone() {
        HotCells cells = new HotCells();
        grid(cells, 50, 54);
        for (int e = 0; e < 1046; e++) {
            cells.edge(1000, e, 1001, e);
        }
        cells.edge(1000, 0, 1000, -1);
        for (int p = 0; p < 999; p++) {
            cells.point(2000, p);
        }
        CHECKS.due("lay() 6000 hot places", cells.lay(), 50 * 55 + 54 * 51 + 1046 + 1);
        CHECKS.due("nodes() 6000", cells.nodes(), 6000);
        cells.point(2000, 999);
        dueRefused("6001 hot places", cells);
    }

    // Else -12, and what was laid stays.
    private static void whatWasLaidStays() {
        HotCells cells = new HotCells();
        cells.edge(0, 0, 9, 6);
        cells.edge(0, 6, 9, 1);
        cells.edge(9, 6, 0, 0);
        cells.lay();
        List<Integer> before = Checks.answers(cells);
        cells.clear();
        grid(cells, 24, 191);
        dueRefused("too many pieces", cells);
        cells.clear();
        row(cells, 101);
        dueRefused("too many steps", cells);
        cells.clear();
        manyHotPlaces(cells);
        cells.edge(1000, 0, 1000, -1);
        dueRefused("too many hot places", cells);
        cells.clear();
        CHECKS.dueStays("clear behind refusals", cells, before);
    }

    /** What a first laying that is refused leaves is nothing. */
    private static void nothingLaidStays() {
        HotCells cells = new HotCells();
        row(cells, 101);
        CHECKS.due("lay() too many steps first", cells.lay(), -12);
        CHECKS.dueNothing("too many steps first", cells);
        cells = new HotCells();
        grid(cells, 24, 191);
        CHECKS.due("lay() too many pieces first", cells.lay(), -12);
        CHECKS.dueNothing("too many pieces first", cells);
        cells = new HotCells();
        manyHotPlaces(cells);
        cells.edge(1000, 0, 1000, -1);
        CHECKS.due("lay() too many hot places first", cells.lay(), -12);
        CHECKS.dueNothing("too many hot places first", cells);
    }

    /** A refused laying loses no edges and no points, and the next one that fits is laid whole. */
    private static void layingGoesOnBehindRefusals() {
        HotCells cells = new HotCells();
        row(cells, 101);
        CHECKS.due("lay() 20200 steps", cells.lay(), -12);
        CHECKS.due("edge behind -12", cells.edge(0, 5, 1, 5), 101);
        CHECKS.due("point behind -12", cells.point(0, 5), 200);
        CHECKS.due("lay() with them", cells.lay(), -12);
        cells.clear();
        cells.edge(0, 0, 2, 2);
        cells.edge(0, 2, 2, 0);
        CHECKS.due("lay() behind -12 and clear", cells.lay(), 4);
        CHECKS.dueNodes("behind -12", cells, 0, 0, 0, 2, 1, 1, 2, 0, 2, 2);
        CHECKS.dueWay("behind -12", cells, 1, 0, 2, 1, 1, 2, 0);
        CHECKS.due("way(2) behind -12", cells.way(2), -1);
        CHECKS.duePieces("behind -12", cells, 0, 2, 1, 1, 2, 1, 2, 3, 1, 2, 4, 1);
    }

    /** More crossings than any row holds, all at one place; then far too many places. */
    private static void manyCrossingsAtFewPlaces() {
        HotCells cells = new HotCells();
        star(cells, 500);
        CHECKS.due("lay() a star of 500", cells.lay(), 1000);
        CHECKS.due("nodes() of the star", cells.nodes(), 1001);
        CHECKS.due("way(499) of the star", cells.way(499), 3);
        cells.clear();
        for (int i = 0; i < 500; i++) {
            cells.edge(i, 0, 3 * i * i % 1009, 1000);
        }
        dueRefused("too many crossings", cells);
    }

    private static void star(HotCells cells, int edges) {
        for (int i = 1; i <= edges; i++) {
            cells.edge(-400000, -i, 400000, i);
        }
    }

    /** The last edge's crossings come when far more than any row holds have come before. */
    private static void newPlacesBehindManyCrossings() {
        HotCells cells = new HotCells();
        star(cells, 400);
        cells.edge(200000, -1, 200000, 500);
        CHECKS.due("lay() a crossed star", cells.lay(), 400 + 200 + 201 + 400);
        CHECKS.due("nodes() of the crossed star", cells.nodes(), 800 + 1 + 2 + 200);
        CHECKS.due("way(0) of the crossed star", cells.way(0), 4);
        CHECKS.due("way(2) of the crossed star", cells.way(2), 5);
        CHECKS.due("way(399) of the crossed star", cells.way(399), 4);
        CHECKS.due("way(400) of the crossed star", cells.way(400), 202);
    }

    /** The pieces and the steps would fit here, so the hot places alone are too many. */
    private static void tooManyPlacesBehindManyCrossings() {
        HotCells cells = new HotCells();
        cells.edge(0, 0, 1, 0);
        cells.lay();
        cells.clear();
        grid(cells, 40, 40);
        for (int e = 0; e < 1720; e++) {
            cells.edge(e, 1000, e, 1001);
        }
        for (int p = 0; p < 1000; p++) {
            cells.point(p, 2000);
        }
        for (int i = 1; i <= 200; i++) {
            cells.edge(-400000, -400000 - i, 400000, -400000 + i);
        }
        dueRefused("6601 hot places", cells);
    }
}
