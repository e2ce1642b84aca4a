import java.util.ArrayList;
import java.util.List;

/** Counts and prints the answers that are not as due. */
final class Checks {
    private int made = 0;
    private int wrong = 0;

    void due(String call, long got, long want) {
        made++;
        if (got != want) {
            wrong++;
            System.out.println(call + " answered " + got + ", due is " + want);
        }
    }

    void holds(String what, boolean holds) {
        due(what, holds ? 1 : 0, 1);
    }

    /** All nodes, by x and y in turn. */
    void dueNodes(String name, HotCells cells, int... places) {
        due(name + ": nodes()", cells.nodes(), places.length / 2);
        for (int n = 0; n < places.length / 2; n++) {
            due(name + ": node(" + n + ", 0)", cells.node(n, 0), places[2 * n]);
            due(name + ": node(" + n + ", 1)", cells.node(n, 1), places[2 * n + 1]);
        }
        due(name + ": node behind the last", cells.node(places.length / 2, 0), 1000000);
    }

    /** The places that the way of an edge must have, in order. */
    void dueWay(String name, HotCells cells, int e, int... places) {
        due(name + ": way(" + e + ")", cells.way(e), places.length / 2);
        for (int k = 0; k < places.length / 2; k++) {
            int n = cells.wayNode(e, k);
            due(name + ": wayNode(" + e + ", " + k + ") x", cells.node(n, 0), places[2 * k]);
            due(name + ": wayNode(" + e + ", " + k + ") y", cells.node(n, 1), places[2 * k + 1]);
        }
        due(name + ": wayNode behind the end", cells.wayNode(e, places.length / 2), -1);
    }

    /** All pieces, by lesser node, other node and number of edges in turn. */
    void duePieces(String name, HotCells cells, int... rows) {
        due(name + ": pieces()", cells.pieces(), rows.length / 3);
        for (int p = 0; p < rows.length / 3; p++) {
            for (int what = 0; what < 3; what++) {
                due(name + ": piece(" + p + ", " + what + ")", cells.piece(p, what), rows[3 * p + what]);
            }
        }
        due(name + ": piece behind the last", cells.piece(rows.length / 3, 0), -1);
    }

    void dueNothing(String name, HotCells cells) {
        due(name + ": nodes()", cells.nodes(), 0);
        due(name + ": node(0, 0)", cells.node(0, 0), 1000000);
        due(name + ": node(0, 1)", cells.node(0, 1), 1000000);
        due(name + ": find(0, 0)", cells.find(0, 0), -1);
        due(name + ": pieces()", cells.pieces(), 0);
        due(name + ": piece(0, 0)", cells.piece(0, 0), -1);
        due(name + ": piece(0, 1)", cells.piece(0, 1), -1);
        due(name + ": piece(0, 2)", cells.piece(0, 2), -1);
        due(name + ": way(0)", cells.way(0), -1);
        due(name + ": wayNode(0, 0)", cells.wayNode(0, 0), -1);
    }

    /** A new object with edges, four numbers each, laid. */
    static HotCells laid(int... ends) {
        HotCells cells = new HotCells();
        for (int i = 0; i < ends.length; i += 4) {
            cells.edge(ends[i], ends[i + 1], ends[i + 2], ends[i + 3]);
        }
        cells.lay();
        return cells;
    }

    /** All that is laid, as the class tells it. */
    static List<Integer> answers(HotCells cells) {
        List<Integer> answers = new ArrayList<>(List.of(cells.nodes(), cells.pieces()));
        for (int n = 0; n < cells.nodes(); n++) {
            answers.addAll(List.of(cells.node(n, 0), cells.node(n, 1), cells.find(cells.node(n, 0), cells.node(n, 1))));
        }
        for (int p = 0; p < cells.pieces(); p++) {
            answers.addAll(List.of(cells.piece(p, 0), cells.piece(p, 1), cells.piece(p, 2)));
        }
        for (int e = 0; cells.way(e) >= 0; e++) {
            answers.add(cells.way(e));
            for (int k = 0; k < cells.way(e); k++) {
                answers.add(cells.wayNode(e, k));
            }
        }
        return answers;
    }

    void dueStays(String name, HotCells cells, List<Integer> laidBefore) {
        holds(name + ": what is laid stays", answers(cells).equals(laidBefore));
    }

    void end() {
        System.out.println(made + " checks, " + wrong + " wrong");
        if (wrong != 0 || made == 0) {
            System.exit(1);
        }
    }
}
