import java.util.List;

/**
 * "What it is" and "Terms": each sentence that names a boundary has a method
 * here that is called with its words and tries both of its sides. The sentences
 * on how many there may be are in LimitTest.
 */
public final class TermsTest {
    private static final Checks CHECKS = new Checks();

    public static void main(String[] args) {
        bentThroughCellsWhereTheyEndOrCross();
        meetsAtGridPlacesAlone();
        noneGoesFar();
        usedForAtMost512Calls();
        placesFromMinus500000To500000();
        theLesserPlace();
        edgesNumberedFrom0();
        eachBetweenTwoUnlikePlaces();
        singlePlaces();
        hotAreEndsAndPoints();
        notInOneStraightLine();
        parallelLines();
        aPlaceInCommon();
        anEndInCommon();
        roundedInXAndY();
        roundedFarOut();
        wholeCrossingsStay();
        cellsFromTheLowerLeftCornerOn();
        cellsUpToBeforeTheOtherCorners();
        cellsBesideTheEdge();
        cellBordersFarOut();
        cellsFarFromTheEdge();
        cellsBeforeAndBehindTheEdge();
        inTheOrderAlongIt();
        inTheOrderAlongItThroughCorners();
        piecesOfTwoPlacesOnce();
        piecesInWhateverDirection();
        nodesAreNumberedFrom0();
        piecesByTheirLesserNode();
        laidStaysTillTheNextLaying();
        piecesMeetAtEndsAlone();
        CHECKS.end();
    }

    private static void due(String call, long got, long want) {
        CHECKS.due(call, got, want);
    }

    private static HotCells laid(int... ends) {
        return Checks.laid(ends);
    }

    // Bends straight edges between whole-number places through the cells of all places where they end or cross:
    private static void bentThroughCellsWhereTheyEndOrCross() {
        HotCells cells = laid(0, 0, 8, 2, 3, 1, 3, 9, 5, 9, 5, 1);
        CHECKS.dueWay("past two ends", cells, 0, 0, 0, 3, 1, 5, 1, 8, 2);
        cells = laid(0, 0, 8, 2, 3, 2, 3, 9, 5, 9, 5, 2);
        CHECKS.dueWay("past no end", cells, 0, 0, 0, 8, 2);
        cells = laid(0, 0, 8, 2, 3, -9, 3, 9, 5, 9, 5, -9);
        CHECKS.dueWay("over two edges", cells, 0, 0, 0, 3, 1, 5, 1, 8, 2);
        cells = laid(0, 0, 8, 2, 1, 1, 4, 0);
        CHECKS.dueWay("over an edge", cells, 0, 0, 0, 2, 1, 8, 2);
        CHECKS.dueWay("the edge over it", cells, 1, 1, 1, 2, 1, 4, 0);
    }

    /** Edges that lie close to one another, each turned a little against the one before. */
    private static HotCells bundle(int slope) {
        HotCells cells = new HotCells();
        for (int i = -9; i <= 9; i++) {
            cells.edge(-40, slope - i, 40 + i, i - slope);
        }
        cells.lay();
        return cells;
    }

    /** Twice the area of the triangle of two nodes and a place; above 0 when the place lies to the left. */
    private static long side(HotCells cells, int from, int to, int place) {
        long dx = cells.node(to, 0) - cells.node(from, 0);
        long dy = cells.node(to, 1) - cells.node(from, 1);
        return dx * (cells.node(place, 1) - cells.node(from, 1)) - dy * (cells.node(place, 0) - cells.node(from, 0));
    }

    // What comes out meets at grid places alone,
    private static void meetsAtGridPlacesAlone() {
        for (int slope = -20; slope <= 20; slope += 5) {
            HotCells cells = bundle(slope);
            CHECKS.holds("a bundle has many pieces", cells.pieces() > 60);
            for (int p = 0; p < cells.pieces(); p++) {
                for (int n = 0; n < cells.nodes(); n++) {
                    CHECKS.holds("node " + n + " lies inside piece " + p + " of bundle " + slope,
                        !liesInside(cells, cells.piece(p, 0), cells.piece(p, 1), n));
                }
                for (int q = 0; q < p; q++) {
                    CHECKS.holds("pieces " + p + " and " + q + " of bundle " + slope + " cross",
                        !cross(cells, cells.piece(p, 0), cells.piece(p, 1), cells.piece(q, 0), cells.piece(q, 1)));
                }
            }
        }
    }

    /** Whether two pieces with no end in common have a place in common; two in one line would have a node inside. */
    private static boolean cross(HotCells cells, int a, int b, int c, int d) {
        if (a == c || a == d || b == c || b == d) {
            return false;
        }
        int onC = Long.signum(side(cells, a, b, c));
        int onD = Long.signum(side(cells, a, b, d));
        int onA = Long.signum(side(cells, c, d, a));
        int onB = Long.signum(side(cells, c, d, b));
        return onC * onD <= 0 && onA * onB <= 0 && (onC != 0 || onD != 0);
    }

    /** Of three nodes in one line the middle one is the middle one in number too. */
    private static boolean liesInside(HotCells cells, int lesser, int other, int node) {
        return side(cells, lesser, other, node) == 0 && node > lesser && node < other;
    }

    // and none goes far from where it was: no node is more than half a step by x and half a step by y off its edge.
    private static void noneGoesFar() {
        for (int slope = -20; slope <= 20; slope += 5) {
            HotCells cells = bundle(slope);
            for (int e = 0; cells.way(e) >= 0; e++) {
                int from = cells.wayNode(e, 0);
                int to = cells.wayNode(e, cells.way(e) - 1);
                long dx = Math.abs(cells.node(to, 0) - cells.node(from, 0));
                long dy = Math.abs(cells.node(to, 1) - cells.node(from, 1));
                due("x where edge " + e + " begins", cells.node(from, 0), -40);
                due("y where edge " + e + " begins", cells.node(from, 1), slope - (e - 9));
                due("x where edge " + e + " ends", cells.node(to, 0), 40 + (e - 9));
                due("y where edge " + e + " ends", cells.node(to, 1), e - 9 - slope);
                for (int k = 1; k < cells.way(e) - 1; k++) {
                    long off = 2 * Math.abs(side(cells, from, to, cells.wayNode(e, k)));
                    CHECKS.holds("edge " + e + " of bundle " + slope + " goes far", off <= dx + dy);
                }
            }
        }
    }

    /** A cross, laid, that has been used for that many calls. */
    private static HotCells used(int calls) {
        HotCells cells = laid(0, 0, 2, 2, 0, 2, 2, 0);
        for (int call = 3; call < calls; call++) {
            cells.nodes();
        }
        return cells;
    }

    // An object is used for at most 512 calls after it has been made.
    private static void usedForAtMost512Calls() {
        due("edge as the 512th call", used(511).edge(5, 5, 6, 6), 2);
        due("point as the 512th call", used(511).point(5, 5), 1);
        due("lay as the 512th call", used(511).lay(), 4);
        due("nodes as the 512th call", used(511).nodes(), 5);
        due("node as the 512th call", used(511).node(2, 1), 1);
        due("find as the 512th call", used(511).find(1, 1), 2);
        due("pieces as the 512th call", used(511).pieces(), 4);
        due("piece as the 512th call", used(511).piece(3, 1), 4);
        due("way as the 512th call", used(511).way(1), 3);
        due("wayNode as the 512th call", used(511).wayNode(1, 2), 3);
        HotCells cells = used(510);
        cells.clear();
        due("lay as the 512th call, clear before it", cells.lay(), 0);
        cells = new HotCells();
        for (int e = 0; e < 511; e++) {
            due("edge as one of 512 calls", cells.edge(0, e, 1, e), e);
        }
        due("lay of 511 edges as the 512th call", cells.lay(), 511);
        cells = new HotCells();
        for (int p = 1; p <= 511; p++) {
            due("point as one of 512 calls", cells.point(0, p), p);
        }
        due("lay of 511 points as the 512th call", cells.lay(), 0);
        cells = new HotCells();
        for (int i = 0; i < 256; i++) {
            cells.edge(0, i, 1, i);
            due("lay as one of 512 calls", cells.lay(), i + 1);
        }
    }

    /** One coordinate where each of the others is in bounds. */
    private static void dueInBounds(int c, boolean in) {
        HotCells cells = new HotCells();
        due("edge x1 " + c, cells.edge(c, 1, 2, 3), in ? 0 : -1);
        due("edge y1 " + c, cells.edge(1, c, 2, 3), in ? 1 : -1);
        due("edge x2 " + c, cells.edge(1, 2, c, 3), in ? 2 : -1);
        due("edge y2 " + c, cells.edge(1, 2, 3, c), in ? 3 : -1);
        due("point x " + c, cells.point(c, 1), in ? 1 : -1);
        due("point y " + c, cells.point(1, c), in ? 2 : -1);
        cells.lay();
        CHECKS.holds("find x " + c, cells.find(c, 1) >= 0 == in);
        CHECKS.holds("find y " + c, cells.find(1, c) >= 0 == in);
        CHECKS.holds("way(3) to " + c, cells.way(3) >= 2 == in);
    }

    // PLACES have x and y from -500000 to 500000.
    private static void placesFromMinus500000To500000() {
        for (int c : new int[] {500000, 499999, -500000, -499999}) {
            dueInBounds(c, true);
        }
        for (int c : new int[] {500001, -500001, 1000000, -1000000, 1 << 30, -(1 << 30), Integer.MAX_VALUE,
            Integer.MIN_VALUE, Integer.MAX_VALUE - 499999, Integer.MIN_VALUE + 500000}) {
            dueInBounds(c, false);
        }
        HotCells cells = laid(-500000, -500000, 500000, 500000, -500000, 500000, 500000, -500000);
        CHECKS.dueNodes("corner to corner", cells, -500000, -500000, -500000, 500000, 0, 0, 500000, -500000,
            500000, 500000);
        due("find in the lowest corner", cells.find(-500000, -500000), 0);
        due("find in the highest corner", cells.find(500000, 500000), 4);
    }

    // Of two the LESSER has the lesser x, of equal ones the lesser y.
    private static void theLesserPlace() {
        CHECKS.dueNodes("lesser x, greater y", laid(2, -5, 1, 5), 1, 5, 2, -5);
        CHECKS.dueNodes("lesser x, lesser y", laid(2, 5, 1, -5), 1, -5, 2, 5);
        CHECKS.dueNodes("lesser x, equal y", laid(-1, 5, -2, 5), -2, 5, -1, 5);
        CHECKS.dueNodes("equal x, lesser y", laid(3, 1, 3, -1), 3, -1, 3, 1);
        CHECKS.dueNodes("one column apart", laid(1, -500000, 0, 500000), 0, 500000, 1, -500000);
        CHECKS.dueNodes("below nothing", laid(-3, -500000, -4, 500000), -4, 500000, -3, -500000);
        due("the lesser node of a piece", laid(1, -500000, 0, 500000).piece(0, 0), 0);
        due("the way begins at the greater", laid(1, -500000, 0, 500000).wayNode(0, 0), 1);
    }

    // There are EDGES, numbered from 0.
    private static void edgesNumberedFrom0() {
        HotCells cells = new HotCells();
        due("the first edge", cells.edge(4, 0, 0, 0), 0);
        due("the second edge", cells.edge(0, 5, 9, 5), 1);
        cells.lay();
        CHECKS.dueWay("numbered", cells, 0, 4, 0, 0, 0);
        CHECKS.dueWay("numbered", cells, 1, 0, 5, 9, 5);
        due("way before edge 0", cells.way(-1), -1);
        due("way behind edge 1", cells.way(2), -1);
    }

    // Each between two unlike places.
    private static void eachBetweenTwoUnlikePlaces() {
        HotCells cells = new HotCells();
        due("twice the same", cells.edge(3, 4, 3, 4), -1);
        due("one up", cells.edge(3, 4, 3, 5), 0);
        due("one down", cells.edge(3, 4, 3, 3), 1);
        due("one to the right", cells.edge(3, 4, 4, 4), 2);
        due("one to the left", cells.edge(3, 4, 2, 4), 3);
        due("x and y changed", cells.edge(3, 4, 4, 3), 4);
        due("x and y the same number", cells.edge(7, 7, 7, 7), -1);
        due("twice 0, 0", cells.edge(0, 0, 0, 0), -1);
        due("from 0, 0", cells.edge(0, 0, 0, 1), 5);
        due("twice a corner", cells.edge(-500000, 500000, -500000, 500000), -1);
        due("one from a corner", cells.edge(-500000, 500000, -500000, 499999), 6);
    }

    // POINTS, single places.
    private static void singlePlaces() {
        HotCells cells = new HotCells();
        cells.point(4, 4);
        cells.point(4, 4);
        due("lay() two points at one place", cells.lay(), 0);
        CHECKS.dueNodes("two points at one place", cells, 4, 4);
        cells.point(4, 5);
        cells.lay();
        CHECKS.dueNodes("a point beside it", cells, 4, 4, 4, 5);
        cells.edge(4, 4, 4, 5);
        due("lay() an edge between points", cells.lay(), 1);
        CHECKS.dueNodes("an edge between points", cells, 4, 4, 4, 5);
    }

    // HOT are all ends of edges and all points. Hot places are the NODES.
    private static void hotAreEndsAndPoints() {
        HotCells cells = laid(0, 0, 9, 0);
        CHECKS.dueNodes("ends", cells, 0, 0, 9, 0);
        due("find on the edge", cells.find(4, 0), -1);
        cells.point(4, 0);
        cells.lay();
        CHECKS.dueNodes("a point on the edge", cells, 0, 0, 4, 0, 9, 0);
        cells.clear();
        cells.point(4, 0);
        cells.lay();
        CHECKS.dueNodes("the point alone", cells, 4, 0);
    }

    // For each two edges that are not in one straight line.
    private static void notInOneStraightLine() {
        CHECKS.dueNodes("level", laid(0, 0, 8, 0, 2, 0, 12, 0), 0, 0, 2, 0, 8, 0, 12, 0);
        CHECKS.dueNodes("upright", laid(3, 8, 3, 0, 3, 2, 3, 12), 3, 0, 3, 2, 3, 8, 3, 12);
        CHECKS.dueNodes("slanted", laid(0, 0, 6, -3, 2, -1, 10, -5), 0, 0, 2, -1, 6, -3, 10, -5);
        CHECKS.dueNodes("within", laid(0, 0, 8, 8, 7, 7, 1, 1), 0, 0, 1, 1, 7, 7, 8, 8);
        CHECKS.dueNodes("the same edge", laid(0, 0, 8, 6, 0, 0, 8, 6), 0, 0, 8, 6);
        CHECKS.dueNodes("end to end", laid(0, 0, 4, 2, 8, 4, 4, 2), 0, 0, 4, 2, 8, 4);
        CHECKS.dueNodes("apart", laid(0, 0, 4, 2, 8, 4, 6, 3), 0, 0, 4, 2, 6, 3, 8, 4);
        CHECKS.dueNodes("corner to corner", laid(-500000, -500000, 500000, 500000, -499999, -499999, 499999, 499999),
            -500000, -500000, -499999, -499999, 499999, 499999, 500000, 500000);
        HotCells cells = laid(-500000, -500000, 500000, 499999, -499999, -499999, 499999, 499998);
        CHECKS.dueNodes("turned by the least", cells, -500000, -500000, -499999, -499999, 0, 0, 499999, 499998,
            500000, 499999);
        CHECKS.dueWay("turned by the least", cells, 0, -500000, -500000, -499999, -499999, 0, 0, 499999, 499998,
            500000, 499999);
        CHECKS.dueWay("turned by the least", cells, 1, -499999, -499999, 0, 0, 499999, 499998);
    }

    /** Not in one straight line, but with no place in common. */
    private static void parallelLines() {
        CHECKS.dueNodes("one apart", laid(0, 0, 9, 0, 0, 1, 9, 1), 0, 0, 0, 1, 9, 0, 9, 1);
        HotCells cells = laid(-500000, -500000, 500000, 499999, -500000, -499999, 500000, 500000);
        CHECKS.dueNodes("far", cells, -500000, -500000, -500000, -499999, 500000, 499999, 500000, 500000);
        CHECKS.duePieces("far", cells, 0, 2, 1, 1, 3, 1);
    }

    /** Two edges, each the first and the second, each way round; and the place that is hot if they meet. */
    private static void dueMeeting(int x, int y, boolean meet, int... ends) {
        for (int turn = 0; turn < 8; turn++) {
            int a = turn % 2 * 4;
            int b = 4 - a;
            int c = turn / 2 % 2 * 2;
            int d = turn / 4 * 2;
            HotCells cells = laid(ends[a + c], ends[a + c + 1], ends[a + 2 - c], ends[a + 3 - c],
                ends[b + d], ends[b + d + 1], ends[b + 2 - d], ends[b + 3 - d]);
            due("nodes beside " + x + ", " + y + " in turn " + turn, cells.nodes(), meet ? 5 : 4);
            CHECKS.holds("hot " + x + ", " + y + " in turn " + turn, cells.find(x, y) >= 0 == meet);
        }
    }

    // And have a place in common.
    private static void aPlaceInCommon() {
        dueMeeting(4, 0, false, 0, 0, 10, 1, 5, 5, 4, 1);
        dueMeeting(4, 0, true, 0, 0, 10, 1, 5, 5, 3, -3);
        // The lines meet half the first edge before it, in the middle of the other.
        dueMeeting(-1, 0, false, 0, 0, 3, 1, -5, -2, 2, 1);
        dueMeeting(-1, 0, true, -3, -1, 3, 1, -5, -2, 2, 1);
        CHECKS.dueNodes("the lines meet before both", laid(4, 4, 9, 9, 4, -4, 9, -9), 4, -4, 4, 4, 9, -9, 9, 9);
        CHECKS.dueNodes("the lines meet behind both", laid(0, 9, 9, 1, 0, -9, 9, -1), 0, -9, 0, 9, 9, -1, 9, 1);
    }

    /** A place in common may be an end, of one of them or of both. */
    private static void anEndInCommon() {
        HotCells cells = laid(0, 0, 10, 0, 5, 5, 5, 0);
        CHECKS.dueNodes("an end on the other", cells, 0, 0, 5, 0, 5, 5, 10, 0);
        CHECKS.duePieces("an end on the other", cells, 0, 1, 1, 1, 2, 1, 1, 3, 1);
        cells = laid(0, 0, 10, 0, 5, 5, 5, 1);
        CHECKS.dueNodes("an end before the other", cells, 0, 0, 5, 1, 5, 5, 10, 0);
        CHECKS.duePieces("an end before the other", cells, 0, 3, 1, 1, 2, 1);
        cells = laid(0, 0, 10, 0, 10, 0, 5, 5);
        CHECKS.dueNodes("the ends of both", cells, 0, 0, 5, 5, 10, 0);
        CHECKS.duePieces("the ends of both", cells, 0, 2, 1, 1, 2, 1);
    }

    /** The crossing is top / (top + rest) of a step behind the coordinate below, on x or on y. */
    private static void dueRounded(int below, int top, int rest, int want) {
        HotCells cells = laid(-500000, 0, 500000, 0, below, -top, below + 1, rest);
        String name = below + " and " + top + " of " + (top + rest);
        due("nodes, x " + name, cells.nodes(), 5);
        CHECKS.holds("find, x " + name, cells.find(want, 0) >= 0);
        cells = laid(rest, below + 1, -top, below, 0, 500000, 0, -500000);
        due("nodes, y " + name, cells.nodes(), 5);
        CHECKS.holds("find, y " + name, cells.find(0, want) >= 0);
    }

    // That place, rounded: x and y to the greatest whole number not above it and a half more.
    private static void roundedInXAndY() {
        for (int below : new int[] {-499999, -8, -7, -2, -1, 0, 1, 6, 7, 499998}) {
            dueRounded(below, 1, 1, below + 1);
            dueRounded(below, 499999, 500000, below);
            dueRounded(below, 500000, 499999, below + 1);
            dueRounded(below, 1, 2, below);
            dueRounded(below, 2, 1, below + 1);
        }
        CHECKS.dueNodes("both up", laid(0, 0, 1, 1, 0, 1, 1, 0), 0, 0, 0, 1, 1, 0, 1, 1);
        CHECKS.dueNodes("both up, below nothing", laid(0, 0, -5, -5, 0, -5, -5, 0), -5, -5, -5, 0, -2, -2, 0, -5,
            0, 0);
        CHECKS.dueNodes("x up to an end", laid(0, 0, 1, 0, 0, -1, 1, 1), 0, -1, 0, 0, 1, 0, 1, 1);
    }

    private static void dueCrossing(int hotX, int hotY, int... ends) {
        int[] turned = {ends[6], ends[7], ends[4], ends[5], ends[2], ends[3], ends[0], ends[1]};
        for (HotCells cells : List.of(laid(ends), laid(turned))) {
            due("nodes with " + hotX + ", " + hotY, cells.nodes(), 5);
            CHECKS.holds("crossing at " + hotX + ", " + hotY, cells.find(hotX, hotY) >= 0);
        }
    }

    /** Crossings less than a billionth of a step below and above the half, on x, then on y. */
    private static void roundedFarOut() {
        dueCrossing(103392, 8172, -497646, -492577, 498811, 337610, -259142, 378333, 450669, -346411);
        dueCrossing(-34952, -6295, -498349, -357534, 498908, 398351, -344527, 329124, 358419, -432505);
        dueCrossing(117125, 52222, -497602, -461935, 499963, 372428, -292120, 486424, 440741, -291130);
        dueCrossing(-44678, -11260, -498914, -405520, 499799, 461326, -404786, 311144, 488531, -488643);
        dueCrossing(2098, 48947, -497482, -350407, 497810, 445210, -410864, 454157, 444997, -385637);
        dueCrossing(-111704, -17388, -499832, -332541, 497678, 477420, -482602, 347362, 303919, -426120);
        dueCrossing(8536, 42887, -499245, -407684, 497105, 476409, -374791, 453905, 447466, -427751);
        dueCrossing(-47023, -69614, -497629, -416940, 498773, 351083, -455967, 320705, 353816, -452198);
        dueCrossing(0, 0, -500000, -500000, 500000, 499999, -500000, 499999, 500000, -500000);
    }

    private static void wholeCrossingsStay() {
        CHECKS.dueNodes("at 5, -2", laid(0, -2, 9, -2, 5, 7, 5, -7), 0, -2, 5, -7, 5, -2, 5, 7, 9, -2);
        CHECKS.dueNodes("at -3, -3", laid(-6, -6, 0, 0, -6, 0, 0, -6), -6, -6, -6, 0, -3, -3, 0, -6, 0, 0);
    }

    /** Whether the way of an edge is bent through a point. */
    private static void dueBend(int x1, int y1, int x2, int y2, int x, int y, boolean bent) {
        HotCells cells = new HotCells();
        cells.edge(x1, y1, x2, y2);
        cells.edge(x2, y2, x1, y1);
        cells.point(x, y);
        due("lay() past " + x + ", " + y, cells.lay(), bent ? 2 : 1);
        due("way(0) past " + x + ", " + y, cells.way(0), bent ? 3 : 2);
        due("way(1) past " + x + ", " + y, cells.way(1), bent ? 3 : 2);
        if (bent) {
            due("wayNode(0, 1)", cells.wayNode(0, 1), cells.find(x, y));
            due("wayNode(1, 1)", cells.wayNode(1, 1), cells.find(x, y));
        }
    }

    // The CELL of a hot place (i, j) has all x from i - 1/2 on, and y likewise.
    private static void cellsFromTheLowerLeftCornerOn() {
        dueBend(0, 0, 3, -3, 2, -1, true);
        dueBend(0, 0, 999, -1000, 2, -1, false);
        dueBend(0, 0, 1000, -999, 2, -1, true);
        dueBend(-9, 2, -6, -1, -7, 1, true);
        dueBend(0, 0, 1, -3, 1, -1, true);
        dueBend(0, 0, 3, -1, 2, 0, true);
    }

    // Up to before i + 1/2, and y likewise.
    private static void cellsUpToBeforeTheOtherCorners() {
        dueBend(0, 0, 3, -3, 1, -2, false);
        dueBend(0, 0, 999, -1000, 1, -2, true);
        dueBend(0, 0, 1000, -999, 1, -2, false);
        dueBend(0, 0, 3, 3, 2, 1, false);
        dueBend(0, 0, 1000, 999, 2, 1, true);
        dueBend(0, 0, 999, 1000, 2, 1, false);
        dueBend(0, 0, 3, 3, 1, 2, false);
        dueBend(0, 0, 999, 1000, 1, 2, true);
        dueBend(0, 0, 1000, 999, 1, 2, false);
        dueBend(0, 0, 1, 3, 0, 2, false);
        dueBend(0, 0, 1, 3, 1, 1, false);
        dueBend(0, 0, 3, 1, 1, 1, false);
        dueBend(0, 0, 3, 1, 2, 0, false);
    }

    /** Borders that an edge goes along are never reached: its ends are whole. */
    private static void cellsBesideTheEdge() {
        dueBend(0, 0, 9, 0, 4, 0, true);
        dueBend(0, 0, 9, 0, 4, 1, false);
        dueBend(0, 0, 9, 0, 4, -1, false);
        dueBend(0, 0, 0, 9, 0, 4, true);
        dueBend(0, 0, 0, 9, 1, 4, false);
        dueBend(0, 0, 0, 9, -1, 4, false);
        dueBend(0, 0, 1000, 1, 499, 0, true);
        dueBend(0, 0, 1000, 1, 500, 0, true);
        dueBend(0, 0, 1000, 1, 501, 0, false);
        dueBend(0, 0, 1000, 1, 499, 1, false);
        dueBend(0, 0, 1000, 1, 500, 1, true);
    }

    /** The corner itself, then the nearest that edges come to it, inside and outside: each slope, each side. */
    private static void cellBordersFarOut() {
        dueBend(-477060, -498660, 495589, 482165, 9264, -8247, false);
        dueBend(-497556, -499493, 498943, 415193, -130299, -162387, true);
        dueBend(-494528, -482544, 448754, 418537, -76812, -83515, false);
        dueBend(-467446, -429538, 498195, 481581, 15375, 26021, false);
        dueBend(-480131, -497554, 492621, 491997, -131714, -143121, true);
        dueBend(-433821, -494360, 497215, 426839, 124025, 57591, false);
        dueBend(-461718, 462328, 483789, -452085, 11036, 5122, true);
        dueBend(-420342, 471210, 482065, -478458, 87161, -62871, true);
        dueBend(-496623, 471255, 485888, -466085, 97591, -95639, false);
        dueBend(-447453, 479383, 482818, -433170, 17682, 23106, false);
        dueBend(-480560, 479891, 435203, -499611, 61205, -99583, true);
        dueBend(-494321, 499355, 474994, -417467, -120393, 145676, false);
    }

    /** So far off the edge that an int would wrap round to nothing, or to the corner. */
    private static void cellsFarFromTheEdge() {
        dueBend(0, 0, 65536, 65536, 0, 32768, false);
        dueBend(0, 0, 65536, 65536, 32768, 0, false);
        dueBend(0, 0, 65536, -65536, 0, -32768, false);
        dueBend(0, 0, 65536, -65536, 65536, -32768, false);
        dueBend(0, 0, 65536, -65536, 32769, 0, false);
        dueBend(0, 0, 65536, -65536, 32769, -32768, true);
        dueBend(-500000, -500000, 500000, 500000, -500000, 500000, false);
        dueBend(-500000, -500000, 500000, 500000, 500000, -500000, false);
    }

    // All those whose cells it has a place in.
    private static void cellsBeforeAndBehindTheEdge() {
        dueBend(0, 0, 9, 0, -1, 0, false);
        dueBend(0, 0, 9, 0, 1, 0, true);
        dueBend(0, 0, 9, 0, 8, 0, true);
        dueBend(0, 0, 9, 0, 10, 0, false);
        dueBend(0, 0, 0, 9, 0, -1, false);
        dueBend(0, 0, 0, 9, 0, 1, true);
        dueBend(0, 0, 0, 9, 0, 8, true);
        dueBend(0, 0, 0, 9, 0, 10, false);
        dueBend(0, 0, 9, 9, -1, -1, false);
        dueBend(0, 0, 9, 9, 1, 1, true);
        dueBend(0, 0, 9, 9, 8, 8, true);
        dueBend(0, 0, 9, 9, 10, 10, false);
        dueBend(0, 0, 9, -9, -1, 1, false);
        dueBend(0, 0, 9, -9, 10, -9, false);
        dueBend(0, 0, 9, 1, -1, 0, false);
        dueBend(0, 0, 9, 1, 10, 1, false);
        dueBend(0, 0, 1, 9, 0, -1, false);
        dueBend(0, 0, 1, 9, 1, 10, false);
    }

    /** An edge in a field of points. */
    private static HotCells amongPoints(int x1, int y1, int x2, int y2) {
        HotCells cells = new HotCells();
        cells.edge(x1, y1, x2, y2);
        for (int x = -4; x <= 4; x++) {
            for (int y = -5; y <= 5; y++) {
                cells.point(x, y);
            }
        }
        cells.lay();
        return cells;
    }

    // In the order along it (by their projections on it).
    private static void inTheOrderAlongIt() {
        CHECKS.dueWay("right and up", amongPoints(0, 0, 1, 4), 0, 0, 0, 0, 1, 0, 2, 1, 2, 1, 3, 1, 4);
        CHECKS.dueWay("left and down", amongPoints(1, 4, 0, 0), 0, 1, 4, 1, 3, 1, 2, 0, 2, 0, 1, 0, 0);
        CHECKS.dueWay("right and down", amongPoints(0, 4, 1, 0), 0, 0, 4, 0, 3, 0, 2, 1, 2, 1, 1, 1, 0);
        CHECKS.dueWay("left and up", amongPoints(1, 0, 0, 4), 0, 1, 0, 1, 1, 1, 2, 0, 2, 0, 3, 0, 4);
        CHECKS.dueWay("up", amongPoints(0, -1, 0, 2), 0, 0, -1, 0, 0, 0, 1, 0, 2);
        CHECKS.dueWay("down", amongPoints(0, 2, 0, -1), 0, 0, 2, 0, 1, 0, 0, 0, -1);
        CHECKS.dueWay("right", amongPoints(-1, 0, 2, 0), 0, -1, 0, 0, 0, 1, 0, 2, 0);
        CHECKS.dueWay("left", amongPoints(2, 0, -1, 0), 0, 2, 0, 1, 0, 0, 0, -1, 0);
        CHECKS.dueWay("flat, right and up", amongPoints(-2, 0, 1, 1), 0, -2, 0, -1, 0, 0, 1, 1, 1);
        CHECKS.dueWay("flat, left and down", amongPoints(1, 1, -2, 0), 0, 1, 1, 0, 1, -1, 0, -2, 0);
        CHECKS.dueWay("flat, right and down", amongPoints(-2, 1, 1, 0), 0, -2, 1, -1, 1, 0, 1, 0, 0, 1, 0);
        CHECKS.dueWay("flat, left and up", amongPoints(1, 0, -2, 1), 0, 1, 0, 0, 0, 0, 1, -1, 1, -2, 1);
        CHECKS.dueWay("three columns down", amongPoints(-1, 5, 1, -5), 0, -1, 5, -1, 4, -1, 3, 0, 3, 0, 2, 0, 1, 0, 0,
            0, -1, 0, -2, 1, -2, 1, -3, 1, -4, 1, -5);
        CHECKS.dueWay("three columns up", amongPoints(1, -5, -1, 5), 0, 1, -5, 1, -4, 1, -3, 1, -2, 0, -2, 0, -1, 0, 0,
            0, 1, 0, 2, 0, 3, -1, 3, -1, 4, -1, 5);
    }

    /** Down to the right an edge has one corner each of the cells above it; up to the right it has none. */
    private static void inTheOrderAlongItThroughCorners() {
        CHECKS.dueWay("right and down", amongPoints(0, 2, 2, 0), 0, 0, 2, 1, 2, 1, 1, 2, 1, 2, 0);
        CHECKS.dueWay("left and up", amongPoints(2, 0, 0, 2), 0, 2, 0, 2, 1, 1, 1, 1, 2, 0, 2);
        CHECKS.dueWay("right and up", amongPoints(0, 0, 2, 2), 0, 0, 0, 1, 1, 2, 2);
        CHECKS.dueWay("left and down", amongPoints(2, 2, 0, 0), 0, 2, 2, 1, 1, 0, 0);
    }

    // These steps are PIECES: each two places once, whoever goes along it.
    private static void piecesOfTwoPlacesOnce() {
        CHECKS.duePieces("one edge", laid(0, 0, 5, 0), 0, 1, 1);
        CHECKS.duePieces("three edges along one", laid(0, 0, 5, 0, 0, 0, 5, 0, 0, 0, 5, 0), 0, 1, 3);
        CHECKS.duePieces("two along one, each beside it too", laid(0, 0, 6, 0, 3, 0, 9, 0), 0, 1, 1, 1, 2, 2, 2, 3, 1);
        CHECKS.duePieces("one place in common", laid(0, 0, 5, 0, 5, 0, 9, 4), 0, 1, 1, 1, 2, 1);
        CHECKS.duePieces("bent onto one another", laid(0, 0, 10, 1, 1, 0, 9, 1), 0, 1, 1, 1, 2, 2, 2, 3, 2, 3, 4, 1);
    }

    // In whatever direction.
    private static void piecesInWhateverDirection() {
        CHECKS.duePieces("there and back", laid(0, 0, 5, 0, 5, 0, 0, 0), 0, 1, 2);
        CHECKS.duePieces("back and back", laid(5, 0, 0, 0, 5, 0, 0, 0), 0, 1, 2);
        CHECKS.duePieces("up and down", laid(2, 9, 2, 0, 2, 0, 2, 9), 0, 1, 2);
        CHECKS.duePieces("there and part of it back", laid(0, 0, 9, 0, 9, 0, 4, 0), 0, 1, 1, 1, 2, 2);
    }

    // Nodes are numbered from 0, the lesser first.
    private static void nodesAreNumberedFrom0() {
        HotCells cells = new HotCells();
        cells.point(500000, 500000);
        cells.point(0, 0);
        cells.point(0, -1);
        cells.point(-500000, -500000);
        cells.point(-1, 1);
        cells.lay();
        CHECKS.dueNodes("points", cells, -500000, -500000, -1, 1, 0, -1, 0, 0, 500000, 500000);
        due("find the least", cells.find(-500000, -500000), 0);
        due("find the greatest", cells.find(500000, 500000), 4);
        due("node before 0", cells.node(-1, 0), 1000000);
        due("node behind the greatest", cells.node(5, 0), 1000000);
    }

    // Pieces by their lesser node, then the other one.
    private static void piecesByTheirLesserNode() {
        CHECKS.duePieces("the lesser node first", laid(1, 1, 2, 1, 100, 0, 0, 0), 0, 3, 1, 1, 2, 1);
        CHECKS.duePieces("then the other one", laid(7, 5, 6, 0, 0, 0, 7, 5, 6, 0, 0, 0, 6, 0, 5, -5, 0, 0, 5, -5),
            0, 1, 1, 0, 2, 1, 0, 3, 1, 1, 2, 1, 2, 3, 1);
    }

    // What is laid stays till the next laying.
    private static void laidStaysTillTheNextLaying() {
        HotCells cells = laid(0, 0, 9, 6, 0, 6, 9, 1, 4, 4, 4, -4);
        List<Integer> before = Checks.answers(cells);
        cells.edge(0, 2, 9, 3);
        CHECKS.dueStays("edge", cells, before);
        cells.edge(0, 2, 0, 2);
        CHECKS.dueStays("an edge that is refused", cells, before);
        cells.point(4, 4);
        CHECKS.dueStays("point", cells, before);
        cells.point(4, 500001);
        CHECKS.dueStays("a point that is refused", cells, before);
        cells.clear();
        CHECKS.dueStays("clear", cells, before);
        cells.edge(7, 7, 8, 8);
        CHECKS.dueStays("edge after clear", cells, before);
        cells.lay();
        CHECKS.dueNodes("the next laying", cells, 7, 7, 8, 8);
        CHECKS.duePieces("the next laying", cells, 0, 1, 1);
        CHECKS.dueWay("the next laying", cells, 0, 7, 7, 8, 8);
        due("a way of the laying before", cells.way(1), -1);
        due("a place of the laying before", cells.find(9, 6), -1);
        cells.clear();
        due("the next laying, of nothing", cells.lay(), 0);
        CHECKS.dueNothing("the next laying, of nothing", cells);
    }

    // (Pieces have no place in common but ends; no node lies inside a piece.) OracleTest has this for any layings.
    private static void piecesMeetAtEndsAlone() {
        HotCells cells = laid(0, 0, 10, 1, 0, 1, 10, 0, 4, 3, 6, -3);
        CHECKS.dueNodes("a small bundle", cells, 0, 0, 0, 1, 4, 3, 5, 0, 5, 1, 6, -3, 10, 0, 10, 1);
        CHECKS.duePieces("a small bundle", cells, 0, 3, 1, 1, 4, 1, 2, 4, 1, 3, 4, 3, 3, 5, 1, 3, 6, 1, 4, 7, 1);
        cells.clear();
        cells.edge(0, 0, 10, 5);
        cells.point(2, 1);
        due("lay() a point on the edge", cells.lay(), 2);
        cells.point(8, 4);
        due("lay() another one", cells.lay(), 3);
        cells.point(6, 2);
        due("lay() a point beside it", cells.lay(), 3);
    }
}
