import java.math.BigInteger;
import java.util.ArrayList;
import java.util.Comparator;
import java.util.List;
import java.util.Random;
import java.util.TreeMap;
import java.util.TreeSet;

/**
 * Compares whole layings with the document's words, worked out slowly in exact
 * fractions: crossings, cells, projections and pieces each as they are told.
 */
public final class OracleTest {
    private static final Checks CHECKS = new Checks();

    private record Place(int x, int y) implements Comparable<Place> {
        public int compareTo(Place other) {
            return x != other.x ? Integer.compare(x, other.x) : Integer.compare(y, other.y);
        }
    }

    private record Edge(Place from, Place to) {
        long dx() {
            return (long) to.x - from.x;
        }

        long dy() {
            return (long) to.y - from.y;
        }

        long projection(Place place) {
            return dx() * ((long) place.x - from.x) + dy() * ((long) place.y - from.y);
        }
    }

    /** A fraction with a divisor above 0. */
    private record Fraction(BigInteger top, BigInteger bottom) {
        static Fraction of(BigInteger top, BigInteger bottom) {
            return bottom.signum() < 0 ? new Fraction(top.negate(), bottom.negate()) : new Fraction(top, bottom);
        }

        static Fraction of(long top, long bottom) {
            return of(BigInteger.valueOf(top), BigInteger.valueOf(bottom));
        }

        int compare(Fraction other) {
            return top.multiply(other.bottom).compareTo(other.top.multiply(bottom));
        }

        boolean isFrom0To1() {
            return top.signum() >= 0 && top.compareTo(bottom) <= 0;
        }

        /** The greatest whole number not above start + length * this + 1/2. */
        int roundedPlace(int start, long length) {
            BigInteger two = BigInteger.TWO;
            BigInteger sum = BigInteger.valueOf(start).multiply(bottom).add(BigInteger.valueOf(length).multiply(top));
            BigInteger[] parts = sum.multiply(two).add(bottom).divideAndRemainder(bottom.multiply(two));
            return parts[0].intValueExact() - (parts[1].signum() < 0 ? 1 : 0);
        }
    }

    /** The stretch of an edge, from 0 to 1, that is still in all borders it was cut by. */
    private static final class Stretch {
        private Fraction low = Fraction.of(0, 1);
        private Fraction high = Fraction.of(1, 1);
        private boolean hasLow = true;
        private boolean hasHigh = true;
        private boolean empty = false;

        /** Keeps the part in which start + length * t is from (2 middle - 1) / 2 up to before (2 middle + 1) / 2. */
        void cut(int start, long length, int middle) {
            long below = 2L * middle - 1 - 2L * start;
            long above = 2L * middle + 1 - 2L * start;
            if (length == 0) {
                empty |= below > 0 || above <= 0;
            } else if (length > 0) {
                raise(Fraction.of(below, 2 * length), true);
                lower(Fraction.of(above, 2 * length), false);
            } else {
                raise(Fraction.of(above, 2 * length), false);
                lower(Fraction.of(below, 2 * length), true);
            }
        }

        private void raise(Fraction to, boolean with) {
            int sign = to.compare(low);
            hasLow = sign > 0 ? with : sign == 0 ? hasLow && with : hasLow;
            low = sign > 0 ? to : low;
        }

        private void lower(Fraction to, boolean with) {
            int sign = to.compare(high);
            hasHigh = sign < 0 ? with : sign == 0 ? hasHigh && with : hasHigh;
            high = sign < 0 ? to : high;
        }

        boolean hasPlace() {
            int sign = low.compare(high);
            return !empty && (sign < 0 || (sign == 0 && hasLow && hasHigh));
        }
    }

    /** What must be laid; null parts where the document says -12. */
    private static final class Due {
        final List<Place> nodes = new ArrayList<>();
        final List<List<Integer>> ways = new ArrayList<>();
        final TreeMap<Long, Integer> pieces = new TreeMap<>();
        int steps = 0;

        Due(List<Edge> edges, List<Place> points) {
            nodes.addAll(hotPlaces(edges, points));
            for (Edge edge : edges) {
                List<Integer> way = wayOf(edge);
                ways.add(way);
                steps += way.size() - 1;
                for (int k = 1; k < way.size(); k++) {
                    long lesser = Math.min(way.get(k - 1), way.get(k));
                    long other = Math.max(way.get(k - 1), way.get(k));
                    pieces.merge(lesser * 1000000 + other, 1, Integer::sum);
                }
            }
        }

        boolean isTooLarge() {
            return nodes.size() > 6000 || pieces.size() > 9000 || steps > 20000;
        }

        private static TreeSet<Place> hotPlaces(List<Edge> edges, List<Place> points) {
            TreeSet<Place> hot = new TreeSet<>(points);
            for (int a = 0; a < edges.size(); a++) {
                hot.add(edges.get(a).from);
                hot.add(edges.get(a).to);
                for (int b = 0; b < a; b++) {
                    Place crossing = crossing(edges.get(a), edges.get(b));
                    if (crossing != null) {
                        hot.add(crossing);
                    }
                }
            }
            return hot;
        }

        private static Place crossing(Edge a, Edge b) {
            long turn = a.dx() * b.dy() - a.dy() * b.dx();
            if (turn == 0) {
                return null;
            }
            long gapX = (long) b.from.x - a.from.x;
            long gapY = (long) b.from.y - a.from.y;
            Fraction onA = Fraction.of(gapX * b.dy() - gapY * b.dx(), turn);
            Fraction onB = Fraction.of(gapX * a.dy() - gapY * a.dx(), turn);
            if (!onA.isFrom0To1() || !onB.isFrom0To1()) {
                return null;
            }
            return new Place(onA.roundedPlace(a.from.x, a.dx()), onA.roundedPlace(a.from.y, a.dy()));
        }

        private List<Integer> wayOf(Edge edge) {
            List<Integer> way = new ArrayList<>();
            for (int n = 0; n < nodes.size(); n++) {
                Stretch stretch = new Stretch();
                stretch.cut(edge.from.x, edge.dx(), nodes.get(n).x);
                stretch.cut(edge.from.y, edge.dy(), nodes.get(n).y);
                if (stretch.hasPlace()) {
                    way.add(n);
                }
            }
            way.sort(Comparator.comparingLong(n -> edge.projection(nodes.get(n))));
            return way;
        }
    }

    private final List<Edge> edges = new ArrayList<>();
    private final List<Place> points = new ArrayList<>();
    private final HotCells cells = new HotCells();
    private final Random random;
    private Due laid = new Due(List.of(), List.of());

    private OracleTest(long seed) {
        random = new Random(seed);
    }

    public static void main(String[] args) {
        for (int seed = 0; seed < 1500; seed++) {
            new OracleTest(seed).smallRun();
        }
        for (int seed = 0; seed < 60; seed++) {
            new OracleTest(seed).wideRun(seed % 2 == 0 ? 500000 : 30);
        }
        new OracleTest(1).growingRun();
        CHECKS.end();
    }

    private int coordinate(int reach) {
        return random.nextInt(2 * reach + 1) - reach;
    }

    private void addEdge(Place from, Place to) {
        boolean same = from.equals(to);
        CHECKS.due("edge", cells.edge(from.x, from.y, to.x, to.y), same ? -1 : edges.size());
        if (!same) {
            edges.add(new Edge(from, to));
        }
    }

    private void addPoint(Place place) {
        points.add(place);
        CHECKS.due("point", cells.point(place.x, place.y), points.size());
    }

    private Place anyPlace(int reach) {
        return new Place(coordinate(reach), coordinate(reach));
    }

    /** Few places, so that edges overlap, touch and pass through corners. */
    private void smallRun() {
        int reach = 1 + random.nextInt(12);
        for (int round = 0; round < 3; round++) {
            int more = random.nextInt(9);
            for (int i = 0; i < more; i++) {
                addEdge(anyPlace(reach), anyPlace(reach));
                if (random.nextInt(2) == 0) {
                    addPoint(anyPlace(reach));
                }
            }
            lay();
            compare();
            if (random.nextInt(4) == 0) {
                clear();
                compare();
            }
        }
    }

    /** Long edges, many close to one another, with ends and points near their lines. */
    private void wideRun(int reach) {
        for (int i = 0; i < 12; i++) {
            Place from = anyPlace(reach);
            Place to = anyPlace(reach);
            addEdge(from, to);
            addEdge(near(from, reach), near(to, reach));
            double part = random.nextDouble();
            Place between = new Place((int) Math.round(from.x + part * (to.x - from.x)),
                (int) Math.round(from.y + part * (to.y - from.y)));
            addPoint(near(between, reach));
            addEdge(near(between, reach), anyPlace(reach));
        }
        lay();
        compare();
    }

    private Place near(Place place, int reach) {
        return new Place(near(place.x, reach), near(place.y, reach));
    }

    private int near(int coordinate, int reach) {
        return Math.max(-reach, Math.min(reach, coordinate + random.nextInt(5) - 2));
    }

    /** Until the limits refuse it, and once more. */
    private void growingRun() {
        int refused = 0;
        for (int round = 0; round < 12 && refused < 2; round++) {
            for (int i = 0; i < 15; i++) {
                addEdge(new Place(-400000 + coordinate(1000), coordinate(500000)),
                    new Place(400000 + coordinate(1000), coordinate(500000)));
            }
            refused += lay() ? 0 : 1;
            compare();
        }
        CHECKS.due("refused layings", refused, 2);
    }

    private void clear() {
        cells.clear();
        edges.clear();
        points.clear();
    }

    private boolean lay() {
        Due due = new Due(edges, points);
        CHECKS.due("lay()", cells.lay(), due.isTooLarge() ? -12 : due.pieces.size());
        if (due.isTooLarge()) {
            return false;
        }
        laid = due;
        return true;
    }

    private void compare() {
        CHECKS.due("nodes()", cells.nodes(), laid.nodes.size());
        for (int n = 0; n < laid.nodes.size(); n++) {
            Place node = laid.nodes.get(n);
            CHECKS.due("node x", cells.node(n, 0), node.x);
            CHECKS.due("node y", cells.node(n, 1), node.y);
            CHECKS.due("find", cells.find(node.x, node.y), n);
            boolean isAbove = laid.nodes.contains(new Place(node.x, node.y + 1));
            CHECKS.holds("find above", cells.find(node.x, node.y + 1) >= 0 == isAbove);
        }
        compareWays();
        comparePieces();
    }

    private void compareWays() {
        for (int e = 0; e < laid.ways.size(); e++) {
            List<Integer> way = laid.ways.get(e);
            CHECKS.due("way", cells.way(e), way.size());
            for (int k = 0; k < way.size(); k++) {
                CHECKS.due("wayNode", cells.wayNode(e, k), way.get(k));
            }
            CHECKS.due("wayNode behind", cells.wayNode(e, way.size()), -1);
        }
        CHECKS.due("way behind", cells.way(laid.ways.size()), -1);
    }

    private void comparePieces() {
        CHECKS.due("pieces()", cells.pieces(), laid.pieces.size());
        int p = 0;
        for (var piece : laid.pieces.entrySet()) {
            CHECKS.due("piece, lesser", cells.piece(p, 0), piece.getKey() / 1000000);
            CHECKS.due("piece, other", cells.piece(p, 1), piece.getKey() % 1000000);
            CHECKS.due("piece, edges", cells.piece(p, 2), piece.getValue());
            p++;
        }
        if (p < 60) {
            piecesMeetAtEndsAlone();
        }
    }

    /** The document's remark: no place in common but ends, no node inside a piece. */
    private void piecesMeetAtEndsAlone() {
        List<Edge> pieces = new ArrayList<>();
        for (int p = 0; p < cells.pieces(); p++) {
            pieces.add(new Edge(laid.nodes.get(cells.piece(p, 0)), laid.nodes.get(cells.piece(p, 1))));
        }
        for (Edge a : pieces) {
            for (Place node : laid.nodes) {
                CHECKS.holds("no node inside a piece", !liesInside(a, node));
            }
            for (Edge b : pieces) {
                boolean shareEnd = a.from.equals(b.from) || a.from.equals(b.to) || a.to.equals(b.from)
                    || a.to.equals(b.to);
                CHECKS.holds("pieces do not cross", shareEnd || Due.crossing(a, b) == null);
            }
        }
    }

    private static boolean liesInside(Edge edge, Place place) {
        long across = edge.dx() * ((long) place.y - edge.from.y) - edge.dy() * ((long) place.x - edge.from.x);
        long along = edge.projection(place);
        return across == 0 && along > 0 && along < edge.projection(edge.to);
    }
}
