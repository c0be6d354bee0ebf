/**
 * What the tests of edges share: each looks at one sentence of the document that names a boundary
 * case, on objects of its own.
 */
abstract class Edge {
    static final int BAD = -1, FULL = -2, NONE = -3, STATE = -4, NOT_TOLD = -9;
    static final int NOTHING_THERE = -11, OUTSIDE = -12, OTHER_SORT = -13, BELOW_0 = -14, PARTED = -15;
    static final int ONCE = 1, LATE = 2, COUNT = 3, PASSED = 4, COPY = 5, GAIN = 6, SPOKEN = 7;
    static final int MIN = Integer.MIN_VALUE, MAX = Integer.MAX_VALUE;

    final Checks checks = new Checks();
    Counted x = new Counted();
    private String sentence = "";

    /** What follows is of a sentence of the document, and of a new object. */
    void of(String words) {
        sentence = words;
        fresh();
    }

    void fresh() {
        x = new Counted();
    }

    void due(String call, long got, long want) {
        checks.due("\"" + sentence + "\": " + call, got, want);
    }

    void persons(int n) {
        for (int p = 0; p < n; p++) x.person(0, 0, 0);
    }

    /** A new object with one PERSON that has one PAPER. */
    void onePaper(int kind, int made, int tells, int wrong) {
        fresh();
        persons(1);
        x.paper(0, kind, made, tells, wrong, 0);
    }
}
