/**
 * Counts the answers of a test, prints those that are not due, and ends the test. A test of edges
 * begins each edge by its name; an edge without a single answer fails too.
 */
final class Due {
    private static final int MOST_PRINTED = 50;

    private final String test;
    private String edge = "";
    private int edges;
    private int answersOfEdge;
    private int passed;
    private int failed;

    Due(String test) {
        this.test = test;
    }

    void begin(String name) {
        endEdge();
        edge = name;
        edges++;
        answersOfEdge = 0;
    }

    void is(String call, long got, long want) {
        count(call, got == want, String.valueOf(got), String.valueOf(want));
    }

    void is(String call, String got, String want) {
        count(call, got.equals(want), got, want);
    }

    void end() {
        endEdge();
        System.out.println(test + ": " + (edges > 0 ? edges + " edges, " : "") + passed + " passed, " + failed + " failed");
        if (failed != 0 || passed == 0) {
            System.exit(1);
        }
    }

    private void endEdge() {
        if (edges > 0 && answersOfEdge == 0) {
            is("answers of this edge", 0, 1);
        }
    }

    private void count(String call, boolean due, String got, String want) {
        answersOfEdge++;
        if (due) {
            passed++;
            return;
        }
        failed++;
        if (failed <= MOST_PRINTED) {
            System.out.println(test + ": " + (edge.isEmpty() ? "" : edge + ": ") + call + " answered " + got + ", due is " + want);
        }
    }
}
