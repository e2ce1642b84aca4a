import java.util.Random;

/** Any calls with any arguments in any state answer, and only with what the document lets them. */
public final class EveryCallAnswersTest {
    private static final Checks CHECKS = new Checks();
    private static final int[] ODD = {
        0, 1, -1, 2, 3, 7, 15, 16, 17, 499999, 500000, 500001, -499999, -500000, -500001, 1000000, -1000000,
        Integer.MAX_VALUE, Integer.MIN_VALUE, Integer.MAX_VALUE - 1, Integer.MIN_VALUE + 1, 1 << 30, -(1 << 30)
    };

    private final Random random;
    private final HotCells cells = new HotCells();

    private EveryCallAnswersTest(long seed) {
        random = new Random(seed);
    }

    public static void main(String[] args) {
        for (int seed = 0; seed < 400; seed++) {
            EveryCallAnswersTest run = new EveryCallAnswersTest(seed);
            for (int call = 0; call < 512; call++) {
                run.call();
            }
        }
        CHECKS.end();
    }

    private int any() {
        switch (random.nextInt(4)) {
            case 0:
                return ODD[random.nextInt(ODD.length)];
            case 1:
                return random.nextInt();
            default:
                return random.nextInt(60) - 10;
        }
    }

    private void call() {
        int nodes = cells.nodes();
        int pieces = cells.pieces();
        switch (random.nextInt(12)) {
            case 0, 1, 2 -> within("edge", cells.edge(any(), any(), any(), any()), -1, 512);
            case 3 -> within("point", cells.point(any(), any()), -1, 512);
            case 4 -> within("lay", cells.lay(), -12, 9000);
            case 5 -> node();
            case 6 -> within("find", cells.find(any(), any()), -1, nodes - 1);
            case 7 -> within("piece", cells.piece(any(), 0), -1, nodes - 1);
            case 8 -> within("piece", cells.piece(any(), any()), -1, Math.max(nodes, 512));
            case 9 -> within("way", cells.way(any()), -1, nodes);
            case 10 -> within("wayNode", cells.wayNode(any(), any()), -1, nodes - 1);
            default -> clear();
        }
        within("pieces", pieces, 0, 9000);
        within("nodes", nodes, 0, 6000);
    }

    private void clear() {
        if (random.nextInt(8) == 0) {
            cells.clear();
        }
    }

    private void node() {
        int answer = cells.node(any(), any());
        if (answer != 1000000) {
            within("node", answer, -500000, 500000);
        }
    }

    private static void within(String call, int answer, int least, int most) {
        CHECKS.holds(call + " answered " + answer, answer >= least && answer <= most);
    }
}
