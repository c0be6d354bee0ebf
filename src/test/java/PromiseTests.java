/** Each promise by itself: ordinary inputs, the edges that the document names, and wrong inputs. */
public final class PromiseTests {
    private static final int BAD = -1, FULL = -2, NONE = -3, STATE = -4;
    private static final int ONCE = 1, LATE = 2, COUNT = 3, PASSED = 4, COPY = 5, GAIN = 6, SPOKEN = 7;
    private static final int MIN = Integer.MIN_VALUE, MAX = Integer.MAX_VALUE;

    private static final Checks CHECKS = new Checks();
    private static Counted x;
    private static String promise;

    private static void begin(String what) {
        promise = what;
        x = new Counted();
    }

    private static void due(String call, long got, long want) {
        CHECKS.due("promise " + promise + ": " + call, got, want);
    }

    public static void main(String[] args) {
        papersAndPersons();
        weights();
        livesAndRests();
        way();
        drawsAndValleys();
        questionsAndRows();
        host();
        things();
        keepAndAgain();
        CHECKS.end("PromiseTests");
    }

    private static void papersAndPersons() {
        newObject();
        person();
        personOf();
        paper();
        paperOf();
        correct();
        span();
    }

    private static void weights() {
        life();
        weightAllBest();
        seen();
        share();
    }

    private static void livesAndRests() {
        common();
        one();
        cut();
        rest();
        standsRoundRoots();
    }

    private static void way() {
        feed();
        read();
        wayStays();
        values();
        takesAndClause();
        truthAndErrs();
    }

    private static void drawsAndValleys() {
        draw();
        suspect();
        heap();
        valley();
    }

    private static void questionsAndRows() {
        question();
        answer();
        next();
        proveAndRow();
        judge();
    }

    private static void host() {
        sheet();
        putAndItem();
        register();
        shelf();
        taken();
        many();
    }

    private static void newObject() {
        begin("1");
        for (int what = 0; what <= 9; what++) due("many(" + what + ")", x.many(what), 0);
        due("stands", x.stands(), 0);
        due("suspect", x.suspect(0), NONE);
        due("judge", x.judge(), 30);
        due("again", x.again(), NONE);
        due("personOf", x.personOf(0, 0), BAD);
        due("paperOf", x.paperOf(0, 0), BAD);
        for (int i = 0; i < 4; i++) {
            due("item", x.item(i, 0, 0), -11);
            due("taken", x.taken(i, 0), -11);
        }
        due("another one's person", new ElderPapers().person(0, 0, 0), 0);
        due("no person by another one", x.many(0), 0);
    }

    private static void person() {
        begin("2");
        int[][] bad = {{-1, 0, 0}, {6, 0, 0}, {0, -1, 0}, {0, 10, 0}, {0, 0, -1}, {0, 0, 2}, {MIN, MAX, MIN}};
        for (int[] b : bad) due("bad", x.person(b[0], b[1], b[2]), BAD);
        due("none came", x.many(0), 0);
        due("least", x.person(0, 0, 0), 0);
        due("greatest", x.person(5, 9, 1), 1);
        for (int i = 2; i < 10; i++) due("person", x.person(1, 2, 1), i);
        due("the eleventh", x.person(1, 2, 1), FULL);
        due("bad ahead of full", x.person(6, 2, 1), BAD);
        due("ten", x.many(0), 10);
    }

    private static void personOf() {
        begin("3");
        x.person(4, 7, 1);
        x.person(2, 3, 0);
        x.paper(1, ONCE, 50, 40, 0, 0);
        x.paper(1, ONCE, 45, 40, 0, 0);
        x.paper(1, GAIN, 90, 40, 0, 0);
        x.truth(0, 0);
        int[][] want = {{4, 7, 1, 0, 0, 0}, {2, 3, 0, 50, 3, -9}};
        for (int p = 0; p < 2; p++) {
            for (int what = 0; what < 6; what++) due("personOf " + what, x.personOf(p, what), want[p][what]);
        }
        due("what below", x.personOf(0, -1), BAD);
        due("what above", x.personOf(0, 6), BAD);
        due("person below", x.personOf(-1, 0), BAD);
        due("person above", x.personOf(2, 0), BAD);
    }

    private static void paper() {
        begin("4");
        due("no person yet", x.paper(0, ONCE, 0, 0, 0, 0), BAD);
        x.person(0, 0, 0);
        int[][] bad = {{-1, 1, 0, 0, 0}, {1, 1, 0, 0, 0}, {0, 0, 0, 0, 0}, {0, 8, 0, 0, 0}, {0, 1, -1, 0, 0},
            {0, 1, 161, 0, 0}, {0, 1, 0, -1, 0}, {0, 1, 0, 161, 0}, {0, 1, 0, 0, -1}, {0, 1, 0, 0, 100}};
        for (int[] b : bad) due("bad", x.paper(b[0], b[1], b[2], b[3], b[4], 0), BAD);
        due("copy of none", x.paper(0, COPY, 5, 5, 5, 0), BAD);
        due("none came", x.many(1), 0);
        due("least", x.paper(0, ONCE, 0, 0, 0, MIN), 0);
        due("greatest", x.paper(0, SPOKEN, 160, 160, 99, MAX), 1);
        due("copy of itself", x.paper(0, COPY, 5, 5, 5, 2), BAD);
        due("copy of below", x.paper(0, COPY, 5, 5, 5, -1), BAD);
        x.person(0, 1, 0);
        due("copy of another one's", x.paper(1, COPY, 5, 5, 5, 1), 2);
        for (int i = 3; i < 7; i++) due("paper", x.paper(0, ONCE, 1, 1, 1, 0), i);
        due("the seventh", x.paper(0, ONCE, 1, 1, 1, 0), FULL);
        due("bad ahead of full", x.paper(0, 9, 1, 1, 1, 0), BAD);
        due("another one's", x.paper(1, ONCE, 1, 1, 1, 0), 7);
        for (int p = 2; p < 6; p++) x.person(0, 0, 0);
        for (int i = 8; i < 30; i++) due("paper", x.paper(i / 6 + (i < 12 ? 0 : 1), ONCE, 1, 1, 1, 0), i);
        due("the thirty first", x.paper(2, ONCE, 1, 1, 1, 0), FULL);
        due("bad ahead of that", x.paper(2, ONCE, 161, 1, 1, 0), BAD);
        due("thirty", x.many(1), 30);
        due("none of that one", x.personOf(2, 4), 0);
    }

    private static void paperOf() {
        begin("5");
        x.person(0, 0, 0);
        x.person(0, 0, 0);
        x.paper(1, COUNT, 50, 40, 30, 0);
        x.paper(0, COPY, 51, 41, 31, 0);
        int[][] want = {{1, 3, 50, 40, 30, -9}, {0, 5, 51, 41, 31, 0}};
        for (int p = 0; p < 2; p++) {
            for (int what = 0; what < 6; what++) due("paperOf " + what, x.paperOf(p, what), want[p][what]);
        }
        due("what below", x.paperOf(0, -1), BAD);
        due("what above", x.paperOf(0, 6), BAD);
        due("paper below", x.paperOf(-1, 0), BAD);
        due("paper above", x.paperOf(2, 0), BAD);
    }

    private static void correct() {
        begin("6");
        x.person(0, 0, 0);
        x.paper(0, ONCE, 50, 40, 10, 0);
        due("no paper", x.correct(1, 3), BAD);
        due("below", x.correct(-1, 3), BAD);
        due("number below", x.correct(0, -1), BAD);
        due("number above", x.correct(0, 161), BAD);
        due("it is as it was", x.paperOf(0, 3), 40);
        due("correct", x.correct(0, 41), 40);
        due("span by it", x.span(0, 41), 1);
        due("no more by the old", x.span(0, 40), 0);
        due("least", x.correct(0, 0), 41);
        due("greatest", x.correct(0, 160), 0);
        due("tells", x.paperOf(0, 3), 160);
    }

    /** A new object with one paper. */
    private static void onePaper(int kind, int made, int tells) {
        x = new Counted();
        x.person(0, 0, 0);
        if (kind == COPY) x.paper(0, ONCE, 0, 0, 0, 0);
        x.paper(0, kind, made, tells, 0, 0);
    }

    private static void spanIs(String what, int kind, int made, int tells, int from, int to) {
        onePaper(kind, made, tells);
        for (int year = 0; year <= 160; year++) {
            due(what + " year " + year, x.span(0, year), year >= from && year <= to ? 1 : 0);
        }
    }

    private static void span() {
        begin("7");
        spanIs("once", ONCE, 60, 50, 50, 50);
        spanIs("once, the last year", ONCE, 50, 50, 50, 50);
        spanIs("once, behind made", ONCE, 49, 50, 1, 0);
        spanIs("late", LATE, 60, 50, 49, 51);
        spanIs("late, cut", LATE, 50, 50, 49, 50);
        spanIs("late of 0", LATE, 50, 0, 0, 1);
        spanIs("count of 0", COUNT, 90, 40, 45, 55);
        spanIs("count of 5", COUNT, 90, 45, 43, 47);
        spanIs("count", COUNT, 90, 44, 45, 47);
        spanIs("count of age 0", COUNT, 90, 0, 85, 90);
        spanIs("count ahead of 0", COUNT, 3, 5, 0, 0);
        spanIs("late, behind 160", LATE, 160, 160, 159, 160);
        spanIs("passed", PASSED, 90, 40, 49, 50);
        spanIs("passed at 0", PASSED, 40, 40, 0, 0);
        spanIs("gain", GAIN, 90, 40, 0, 50);
        spanIs("gain of none", GAIN, 30, 40, 1, 0);
        spanIs("spoken", SPOKEN, 90, 40, 0, 35);
        spanIs("spoken, cut", SPOKEN, 30, 40, 0, 30);
        spanIs("spoken of 4", SPOKEN, 30, 4, 1, 0);
        spansOfCopies();
        due("year below", x.span(0, -1), BAD);
        due("year above", x.span(0, 161), BAD);
        due("paper below", x.span(-1, 0), BAD);
        due("paper above", x.span(99, 0), BAD);
    }

    private static void spansOfCopies() {
        for (int tells = 0; tells <= 160; tells++) {
            int made = tells % 3 == 0 ? 160 : 118;
            onePaper(COPY, made, tells);
            for (int year = 0; year <= 160; year++) {
                boolean is = year <= made && placesApart(tells, year) <= 1;
                due("copy of " + tells + " year " + year, x.span(1, year), is ? 1 : 0);
            }
        }
    }

    private static int placesApart(int a, int b) {
        String first = String.format("%03d", a);
        String second = String.format("%03d", b);
        int apart = 0;
        for (int i = 0; i < 3; i++) if (first.charAt(i) != second.charAt(i)) apart++;
        return apart;
    }

    private static void life() {
        begin("8");
        x.person(0, 0, 0);
        due("sheet below", x.life(-1), BAD);
        due("sheet above", x.life(4), BAD);
        due("missing", x.life(0), -11);
        for (int sort = 0; sort < 4; sort++) {
            x.sheet(0, sort, 17);
            due("sort " + sort, x.life(0), sort == 1 ? 1 : -13);
        }
        x.putShorts(1, 100, 100, 100, 100, 100, 100, 100, 100, 100, 100, 100, 100, 100, 100, 100, 100);
        due("sixteen", x.life(1), STATE);
        x.putShorts(1, 9, 9, 9, 9, 9, 9, 9, 9, 9, 9, 9, 9, 9, 9, 9, 9, 9, 9);
        due("eighteen", x.life(1), STATE);
        x.putShorts(1, 1, 2, 3, 4, 5, 6, 7, 8, 9, 10, 11, 12, 13, 14, 15, 16, 100);
        for (int i = 0; i < 17; i++) {
            x.put(1, i, 101);
            due("above a hundred at " + i, x.life(1), STATE);
            x.put(1, i, -1);
            due("below 0 at " + i, x.life(1), STATE);
            x.put(1, i, i == 16 ? 100 : i + 1);
        }
        due("life", x.life(1), 1);
        x.put(1, 0, 77);
        x.paper(0, ONCE, 160, 0, 50, 0);
        for (int year = 0; year <= 160; year++) {
            int row = (160 - year) / 10;
            due("weight " + year, x.weight(0, year), (row == 16 ? 100 : row + 1) * 50);
        }
        x.put(1, 0, 78);
        x.sheet(1, 1, 17);
        due("its own numbers", x.weight(0, 160), 50);
        due("all 0", x.life(1), 1);
        due("no weight", x.all(0), 0);
    }

    private static void weightAllBest() {
        begin("9 to 11");
        x.person(0, 0, 0);
        x.person(0, 0, 0);
        x.paper(0, COUNT, 60, 50, 30, 0);
        due("in the span", x.weight(0, 5), 7000);
        due("at its end", x.weight(0, 15), 7000);
        due("ahead of it", x.weight(0, 4), 3000);
        due("at seen", x.weight(0, 60), 3000);
        due("behind seen", x.weight(0, 61), 0);
        due("all", x.all(0), 227000);
        due("best: the least", x.best(0), 5);
        due("without papers", x.weight(1, 0), 100);
        due("without papers, 1", x.weight(1, 1), 0);
        due("all without papers", x.all(1), 100);
        due("best without papers", x.best(1), 0);
        x.paper(0, GAIN, 90, 80, 20, 0);
        due("times of each", x.weight(0, 10), 560000);
        due("times of each, out", x.weight(0, 11), 140000);
        x.paper(0, LATE, 70, 9, 0, 0);
        due("a paper that can't be wrong", x.weight(0, 7), 0);
        due("best", x.best(0), 8);
        due("all by three", x.all(0), 3 * 56000000L);
        x.paper(0, ONCE, 60, 20, 0, 0);
        due("no year is left", x.all(0), 0);
        due("no best", x.best(0), NONE);
        due("year below", x.weight(0, -1), BAD);
        due("year above", x.weight(0, 161), BAD);
        for (int p : new int[] {-1, 2, MIN, MAX}) {
            due("weight of no one", x.weight(p, 0), BAD);
            due("all of no one", x.all(p), BAD);
            due("best of no one", x.best(p), BAD);
        }
        for (int i = 0; i < 6; i++) x.paper(1, GAIN, 160, 0, 0, 0);
        due("the greatest weight", x.weight(1, 0), 100000000000000L);
    }

    private static void seen() {
        begin("9: seen");
        x.person(0, 0, 0);
        x.paper(0, GAIN, 70, 60, 10, 0);
        due("gain alone: only year 0", x.all(0), 9000);
        x.paper(0, ONCE, 30, 20, 10, 0);
        due("at seen", x.weight(0, 30), 10000);
        due("behind seen", x.weight(0, 31), 0);
        x.paper(0, ONCE, 29, 20, 10, 0);
        due("an earlier one", x.personOf(0, 3), 30);
    }

    private static void share() {
        begin("12");
        x.person(3, 0, 0);
        x.paper(0, ONCE, 50, 10, 10, 0);
        x.paper(0, COPY, 60, 12, 20, 0);
        x.paper(0, COUNT, 55, 40, 40, 0);
        due("above", x.share(0, 50, 0), 134);
        due("below", x.share(0, 50, 1), 349);
        due("sure above", x.share(0, 0, 0), 1);
        due("sure below", x.share(0, 0, 1), 1);
        due("none above", x.share(0, 61, 0), 0);
        due("none below", x.share(0, 61, 1), 1);
        due("the oldest above", x.share(0, 60, 0), 2);
        due("the oldest below", x.share(0, 60, 1), 349);
        due("age below", x.share(0, -1, 0), BAD);
        due("age above", x.share(0, 161, 0), BAD);
        due("greatest age", x.share(0, 160, 1), 1);
        due("what below", x.share(0, 0, -1), BAD);
        due("what above", x.share(0, 0, 2), BAD);
        due("person below", x.share(-1, 0, 0), BAD);
        due("person above", x.share(1, 0, 0), BAD);
        x.person(0, 0, 0);
        x.paper(1, ONCE, 3, 2, 49, 0);
        due("in lowest terms already", x.share(1, 1, 0), 149);
        due("and below", x.share(1, 1, 1), 198);
        x.lifeOf(1);
        due("as it is", x.share(1, 1, 0), 149);
        due("as it is, below", x.share(1, 1, 1), 198);
        x.person(0, 0, 0);
        due("all is 1", x.share(2, 0, 0), 1);
        due("all is 1, none", x.share(2, 1, 0), 0);
        due("best of 1", x.best(2), 0);
        x.paper(0, ONCE, 50, 51, 0, 0);
        due("all is 0", x.share(0, 50, 0), NONE);
        due("all is 0, below", x.share(0, 50, 1), NONE);
        due("bad ahead of none", x.share(0, 50, 2), BAD);
    }

    private static void common() {
        begin("13");
        for (int p = 0; p < 3; p++) x.person(0, 0, 0);
        due("without papers", x.common(0, 1), 161);
        x.paper(0, COUNT, 60, 50, 0, 0);
        x.paper(1, COUNT, 60, 45, 0, 0);
        due("both", x.common(0, 1), 3);
        due("turned", x.common(1, 0), 3);
        due("one, twice", x.common(0, 0), 11);
        due("one without", x.common(0, 2), 11);
        x.paper(0, LATE, 60, 15, 0, 0);
        due("all papers", x.common(0, 1), 2);
        x.paper(1, ONCE, 60, 17, 0, 0);
        due("none", x.common(0, 1), 0);
        due("a below", x.common(-1, 0), BAD);
        due("b above", x.common(0, 3), BAD);
    }

    private static void one() {
        begin("14");
        int[][] people = {{1, 2, 0}, {1, 2, 0}, {1, 3, 0}, {4, 2, 0}, {4, 3, 0}, {1, 2, 1}};
        for (int[] p : people) x.person(p[0], p[1], p[2]);
        int[] want = {BAD, 1, 1, 1, 0, 0};
        for (int p = 0; p < 6; p++) {
            due("one 0 " + p, x.one(0, p), want[p]);
            due("one " + p + " 0", x.one(p, 0), want[p]);
        }
        x.paper(0, ONCE, 50, 20, 0, 0);
        x.paper(1, LATE, 50, 21, 0, 0);
        x.paper(2, LATE, 50, 22, 0, 0);
        due("a year in common", x.one(0, 1), 1);
        due("none in common", x.one(0, 2), 0);
        due("a below", x.one(-1, 0), BAD);
        due("b above", x.one(0, 6), BAD);
        due("no one twice", x.one(7, 7), BAD);
    }

    private static void cut() {
        begin("15");
        for (int p = 0; p < 6; p++) x.person(0, 0, 0);
        due("without papers", x.cut(0), NONE);
        x.paper(0, ONCE, 80, 60, 0, 0);
        due("one paper", x.cut(0), 0);
        x.paper(0, ONCE, 50, 20, 0, 0);
        due("the earlier first", x.cut(0), 1);
        x.paper(0, LATE, 40, 20, 0, 0);
        due("by made", x.cut(0), 2);
        x.paper(0, ONCE, 45, 30, 0, 0);
        due("no cut", x.cut(0), NONE);
        x.paper(1, ONCE, 80, 30, 0, 0);
        x.paper(1, ONCE, 80, 10, 0, 0);
        x.paper(1, ONCE, 80, 10, 0, 0);
        due("of like ones by numbers", x.cut(1), 1);
        x.paper(2, ONCE, 80, 10, 0, 0);
        x.paper(2, ONCE, 80, 10, 0, 0);
        x.paper(2, ONCE, 80, 30, 0, 0);
        due("of like ones by numbers, too", x.cut(2), 2);
        x.paper(3, ONCE, 40, 50, 0, 0);
        due("an empty span", x.cut(3), NONE);
        x.paper(3, ONCE, 50, 50, 0, 0);
        due("an empty span ahead", x.cut(3), NONE);
        x.paper(4, LATE, 60, 10, 0, 0);
        x.paper(4, LATE, 61, 11, 0, 0);
        x.paper(4, LATE, 62, 12, 0, 0);
        due("all agree", x.cut(4), 0);
        x.paper(4, LATE, 63, 13, 0, 0);
        due("the least of several", x.cut(4), 1);
        x.paper(5, ONCE, 160, 160, 0, 0);
        due("the last year", x.cut(5), 0);
        x.paper(5, ONCE, 150, 0, 0, 0);
        due("the first year", x.cut(5), 1);
        due("person below", x.cut(-1), BAD);
        due("person above", x.cut(6), BAD);
        begin("15: the first paper");
        x.person(0, 0, 0);
        x.paper(0, ONCE, 10, 5, 0, 0);
        x.paper(0, ONCE, 30, 15, 0, 0);
        x.paper(0, ONCE, 20, 15, 0, 0);
        due("it is alone", x.cut(0), 1);
    }

    private static void rest() {
        begin("16");
        for (int p = 0; p < 2; p++) x.person(0, 0, 0);
        for (int i = 0; i < 6; i++) x.paper(0, ONCE, 1, 1, 1, 0);
        for (int i = 0; i < 2; i++) x.paper(1, COPY, 1, 1, 1, 0);
        due("itself", x.rest(0, 0), BAD);
        due("a below", x.rest(-1, 0), BAD);
        due("a above", x.rest(8, 0), BAD);
        due("b below", x.rest(0, -1), BAD);
        due("b above", x.rest(0, 8), BAD);
        due("none above, twice", x.rest(9, 9), BAD);
        due("what a copy is of", x.rest(6, 0), 1);
        due("told", x.rest(6, 0), STATE);
        due("the other way", x.rest(0, 6), 2);
        int told = 2;
        for (int a = 1; a < 7 && told < 40; a++) {
            for (int b = 0; b < 8 && told < 40; b++) {
                if (a != b && !(a == 6 && b == 0)) due("rest", x.rest(a, b), ++told);
            }
        }
        due("forty", x.many(3), 40);
        due("one more", x.rest(7, 3), FULL);
        due("told, when full", x.rest(6, 0), STATE);
        due("bad, when full", x.rest(7, 7), BAD);
        due("still forty", x.many(3), 40);
        due("none told", x.roots(7), 0);
    }

    private static void standsRoundRoots() {
        begin("17 to 19");
        for (int p = 0; p < 5; p++) x.person(0, 0, 0);
        for (int i = 0; i < 8; i++) x.paper(i / 6, i == 1 ? COPY : ONCE, 1, 1, 1, 0);
        due("all stand", x.stands(), 255);
        due("roots of itself", x.roots(5), 32);
        due("roots of a copy", x.roots(1), 1);
        x.rest(2, 3);
        x.rest(3, 4);
        x.rest(4, 2);
        due("a round does not stand", x.stands(), 255 - 4 - 8 - 16);
        x.rest(5, 2);
        due("nor what rests on it alone", x.stands(), 255 - 4 - 8 - 16 - 32);
        due("not in the round", x.round(5), 0);
        for (int p = 2; p <= 4; p++) due("in the round", x.round(p), 1);
        due("a copy is in none", x.round(1), 0);
        due("no roots", x.roots(5), 0);
        x.rest(3, 7);
        due("on one at least", x.stands(), 255);
        due("roots over others", x.roots(5), 128);
        x.rest(5, 6);
        due("several roots", x.roots(5), 128 + 64);
        due("a round stays", x.round(2), 1);
        x.rest(0, 1);
        due("a copy in a round", x.round(1), 1);
        due("its paper, too", x.round(0), 1);
        due("these do not stand", x.stands(), 255 - 3);
        due("round below", x.round(-1), BAD);
        due("round above", x.round(8), BAD);
        due("roots below", x.roots(-1), BAD);
        due("roots above", x.roots(8), BAD);
        for (int i = 8; i < 30; i++) x.paper(i / 6, ONCE, 1, 1, 1, 0);
        for (int i = 29; i > 8; i--) x.rest(i - 1, i);
        due("a long chain stands", x.stands(), (1 << 30) - 1 - 3);
        due("the root of a long chain", x.roots(8), 1 << 29);
        x.rest(29, 8);
        due("a long round", x.round(20), 1);
        due("a long round does not stand", x.stands(), 255 - 3);
    }

    private static int read(String text) {
        return x.readText(text);
    }

    private static void feed() {
        begin("20");
        due("none", x.feed(0, 0), BAD);
        due("nine", x.feed(0, 9), BAD);
        due("below", x.feed(0, -1), BAD);
        for (int i = 1; i <= 24; i++) due("eight", x.feed(-1, 8), 8 * i);
        due("seven", x.feed(0, 7), 199);
        due("two hundred and one", x.feed(0, 2), FULL);
        due("bad when full", x.feed(0, 9), BAD);
        due("as many as ahead", x.many(8), 199);
        due("two hundred", x.feed(0, 1), 200);
        due("more", x.feed(0, 1), FULL);
        due("used up", x.read(), -100);
        due("empty", x.many(8), 0);
        due("the lowest first", x.feed(0x656b6174L, 4), 4);
        due("no more than n", x.feed(0x3b313d3120L, 1), 5);
        due("their end", x.read(), -105);
        x.feed(0x7a656b6174L, 4);
        x.feed(0x3b313d3120L, 5);
        due("bytes above n stay away", x.read(), 1);
        for (int i = 0; i < 25; i++) x.feed(0x2020202020202020L, 8);
        due("two hundred blanks", x.read(), 0);
    }

    private static void read() {
        begin("21");
        Object[][] texts = {{"", 0}, {"   ", 0}, {"take", -104}, {"take ", -105}, {"tak 1=1;", -100},
            {"taken 1=1;", -100}, {" take 1=1;", 1}, {"take 1=1", -108}, {"take 1=1  ", -110}, {"take 1=1;x", -109},
            {"take 1=1;;", -109}, {"Take 1=1;", -100}, {"take 1 2;", -107}, {"take 1<;", -107},
            {"take 1<2 3;", -109}, {"take 1<2 or;", -111}, {"take or 1<2;", -105}, {"take not 1<2;", 1},
            {"take not not not 1<2;", 1}, {"take not;", -108}, {"take 1 not <2;", -107}, {"take 1<not 2;", -107},
            {"take (1<2;", -109}, {"take (1<2", -109}, {"take 1<2);", -108}, {"take (1<2));", -110},
            {"take ()1<2;", -106}, {"take (1)<2;", -107}, {"take (1<2)<2;", -110}, {"take share age<2;", -111},
            {"take share<2;", -110}, {"take share", -110}, {"take 1<share;", -112}, {"take 1<share 7;", 1},
            {"take share 999<2;", 1}, {"take share 1000<2;", -111}, {"take 0000<2;", -105}, {"take 1000;", -105},
            {"take age<1000;", -109}, {"take 000<999;", 1}, {"take 1<2and 2<3;", 1}, {"take1<2;", 1},
            {"take share5<2;", 1}, {"takeage<2;", -100}, {"take 1<2andage<3;", -108}, {"turn age", -108},
            {"take age<2 and papers=1 or not(wrong>0);", 1}, {"take ((1<2) and ((1<2)));", 1},
            {"take (((1<2) and 1<2));", 1}, {"take ((((1<2))));", -108}, {"take (((1<2) and ((1<2))));", -118},
            {"take (1<2)(1<2);", -110}, {"take (1<2)or(((1<2)));", 1}, {"take (((not(1<2))));", -111},
            {"take\t1<2;", -104}, {"take 1<2\u00e9;", -108}, {"take 1<2-", -108}, {"take 1<2;\u0000", -109},
            {"take turn 1=1;", -105}, {"turn papers = stands;take seen>house;", 2}, {"take age<seen<3;", -113},
            {"take 1<=2;", -107}, {"take 1=1,", -108}, {"take {1=1;", -105}, {"take 1:1;", -106}, {"take /=1;", -105},
            {"take `=1;", -105}, {"take 1=1;take", -113}, {"take 1=1 take 1=1;", -109}, {"and 1=1;", -100}, {";", -100},
            {"1=1;", -100}, {"take paper=1;", -105}, {"fake 1=1;", -100}, {"take take 5=1;", -105},
            {"take 1=1 turn 1=1;", -109}, {"or 1=1;", -100}, {"share 5=1;", -100}, {"take 1;1;", -106}, {"take 1=1>", -108},
            {"take 1=1 take;", -109}, {"take not take 1=1;", -109}, {"take 1 and 1=1;", -107}, {"take (;", -106},
            {"take 1=1 orz", -109}, {"take 1=1orz", -108}, {"take 1=1 ora", -109}, {"take 9=0;", 1},
            {"take paperss=1;", -105}, {"take 1<2 nor 1<2;", -109}};
        for (Object[] t : texts) {
            due("<" + t[0] + ">", read((String) t[0]), (Integer) t[1]);
            due("used up", x.many(8), 0);
        }
        String one = "turn 1=1;";
        due("six", read(one.repeat(6)), 6);
        due("the seventh", read(one.repeat(6) + "  " + one), -156);
        due("another seventh", read(one.repeat(6) + " and"), -155);
        due("a long word", read("takeeeeeeeeeeeeeeeeeeeeeeeeeeeeeeeeeeeeeeeeeee 1=1;"), -100);
        due("two hundred bytes", read("take " + "not ".repeat(47) + "1=1;   "), 1);
    }

    private static void wayStays() {
        begin("21: the way");
        x.person(0, 0, 0);
        due("a way", read("turn 1=2; take 1=1;"), 2);
        due("a fault", read("turn 1=1; take 1="), -117);
        due("the way stays", x.many(2), 2);
        due("and judges", x.takes(0), 1);
        due("an empty one", read(" "), 0);
        due("takes none", x.takes(0), 0);
        due("a fault behind much", read("take not not 1=1 or (not 1=2 and ;"), -133);
        due("it leaves nothing for the next", read("take 1=2;"), 1);
        due("a not left alone", read("take not"), -108);
        due("that leaves nothing either", read("take 1=2;"), 1);
        due("so it holds not", x.takes(0), 0);
        due("another fault", read("take 1=2; take not ("), -120);
        due("nothing of its clauses", read("take 1=1;"), 1);
        due("so it holds", x.clause(0), 0);
        due("a fault behind a sign", read("take 1="), -107);
        due("the sign is gone", read("take 1=1;"), 1);
    }

    /** Whether the condition holds for person 0. */
    private static boolean holds(String cond) {
        int clauses = read("take " + cond + ";");
        due("<" + cond + ">", clauses, 1);
        return x.takes(0) == 1;
    }

    private static void valueIs(String value, int want) {
        int more = want + 1;
        due(value, holds(value + "=" + want + " and not " + value + "<" + want) ? 1 : 0, 1);
        due(value + " not above", holds(want + "<" + value) ? 1 : 0, 0);
        due(value + " below", holds(value + "<" + more + " and " + more + ">" + value) ? 1 : 0, 1);
    }

    private static void values() {
        valuesWithoutPapers();
        valuesOfPapers();
        valuesWithoutBest();
        joints();
    }

    private static void valuesWithoutPapers() {
        begin("22: values");
        x.person(3, 0, 0);
        for (String zero : new String[] {"papers", "stands", "age", "seen", "wrong"}) valueIs(zero, 0);
        valueIs("share 0", 100);
        valueIs("share 1", 0);
        valueIs("share 999", 0);
        for (String number : new String[] {"999=999", "999>998", "998<999", "000=0", "010=10", "999>papers"}) {
            due(number, holds(number) ? 1 : 0, 1);
        }
        x.lifeOf(1);
        valueIs("share 0", 100);
    }

    private static void threePapers() {
        begin("22: values");
        x.person(3, 0, 0);
        x.lifeOf(1);
        x.paper(0, ONCE, 50, 10, 10, 0);
        x.paper(0, COPY, 60, 12, 20, 0);
        x.paper(0, COUNT, 55, 40, 40, 0);
        x.person(4, 0, 0);
        x.paper(1, ONCE, 90, 10, 10, 0);
    }

    private static void valuesOfPapers() {
        threePapers();
        int[] want = {3, 3, 50, 60, 3, 0, 38, 100, 0, 38};
        String[] words = {"papers", "stands", "age", "seen", "house", "wrong", "share 50", "share 0", "share 161",
            "share 050"};
        for (int i = 0; i < want.length; i++) valueIs(words[i], want[i]);
        x.rest(0, 2);
        x.rest(2, 0);
        valueIs("stands", 0);
        x.rest(2, 3);
        valueIs("stands", 3);
    }

    private static void valuesWithoutBest() {
        threePapers();
        x.paper(0, LATE, 60, 40, 80, 0);
        x.paper(0, SPOKEN, 60, 8, 60, 0);
        valueIs("wrong", 2);
        x.correct(0, 70);
        due("the best by others", x.best(0), 10);
        valueIs("wrong", 3);
        x.paper(0, ONCE, 10, 20, 0, 0);
        due("no best", x.best(0), NONE);
        valueIs("age", 0);
        valueIs("wrong", 0);
        valueIs("share 0", 0);
        valueIs("papers", 6);
    }

    private static void joints() {
        begin("22: conditions");
        x.person(0, 0, 0);
        String[] so = {"1=1", "not 1=2", "not not 1=1", "1=1 or 1=1 and 1=2", "1=2 and 1=1 or 1=1",
            "1=1 or not 1=1", "not 1=2 and 1=1", "not (1=1 and 1=2)", "not (1=2 or 1=2)", "not 1=2 or 1=1",
            "(1=1 or 1=1) and (1=2 or 1=1)", "1=1 and not (1=1 and not 1=1)", "1=2 or 1=2 or 1=1",
            "1=1 and 1=1 and 1=1", "not (1=1 and (1=2 or (1=1 and 1=2)))", "1=1 and (1=1 or 1=2) and 1=1"};
        for (String cond : so) due(cond, holds(cond) ? 1 : 0, 1);
        String[] notSo = {"1=2", "1<1", "1>1", "not 1=1", "not not 1=2", "(1=1 or 1=1) and 1=2", "1=2 and 1=1",
            "not 1=1 or 1=2", "not 1=1 and 1=2", "not (1=1 or 1=2)", "not 1=2 and 1=2", "1=2 and (1=1 or 1=1)",
            "1=1 and 1=1 and 1=2", "1=2 or 1=2", "not (1=2 or (1=1 and (1=2 or 1=1)))"};
        for (String cond : notSo) due(cond, holds(cond) ? 1 : 0, 0);
    }

    private static void takesAndClause() {
        begin("22 and 23");
        due("no one", x.takes(0), BAD);
        due("no one's clause", x.clause(0), BAD);
        for (int p = 0; p < 6; p++) x.person(p, 0, 0);
        due("no way", x.takes(0), 0);
        due("no clause", x.clause(0), NONE);
        due("a way", read("turn house = 1; take house < 3; turn house < 4; take house = 0; take house > 4;"), 5);
        int[] takes = {1, 0, 1, 0, 0, 1};
        int[] clauses = {1, 0, 1, 2, NONE, 4};
        for (int p = 0; p < 6; p++) {
            due("takes " + p, x.takes(p), takes[p]);
            due("clause " + p, x.clause(p), clauses[p]);
        }
        due("below", x.takes(-1), BAD);
        due("above", x.takes(6), BAD);
        due("clause below", x.clause(-1), BAD);
        due("clause above", x.clause(6), BAD);
    }

    private static void truthAndErrs() {
        begin("24 and 25");
        due("no one", x.truth(0, 5), BAD);
        for (int p = 0; p < 4; p++) {
            x.person(p, 0, 0);
            x.paper(p, ONCE, 90, 10, 10, 0);
        }
        due("below", x.truth(0, -2), BAD);
        due("above", x.truth(0, 161), BAD);
        due("no one below", x.truth(-1, 0), BAD);
        due("not told", x.personOf(0, 5), -9);
        due("the last", x.truth(0, 160), 1);
        due("told", x.personOf(0, 5), 160);
        due("the first", x.truth(0, 0), 1);
        due("told 0", x.personOf(0, 5), 0);
        x.truth(1, 40);
        x.truth(2, 10);
        read("take house < 2;");
        due("taken, though below 80", x.errs(80, 0), 1);
        due("turned, though 80", x.errs(80, 1), 1);
        due("turned, though 81", x.errs(81, 1), 0);
        due("taken at 50", x.errs(50, 0), 0);
        due("taken at 51", x.errs(51, 0), 1);
        due("taken at 91", x.errs(91, 0), 2);
        x.truth(2, -1);
        due("no more told", x.personOf(2, 5), -9);
        due("no more an err", x.errs(80, 1), 0);
        x.truth(3, 160);
        due("born behind seen is below", x.errs(0, 1), 0);
        read("take 1=1;");
        due("born behind seen, taken", x.errs(0, 0), 1);
        due("age below", x.errs(-1, 0), BAD);
        due("age above", x.errs(161, 0), BAD);
        due("greatest age", x.errs(160, 0), 3);
        due("what below", x.errs(0, -1), BAD);
        due("what above", x.errs(0, 2), BAD);
    }

    private static void draw() {
        begin("26 and 27");
        due("no one", x.draw(0, 1, 1, 1), BAD);
        due("behind of no one", x.behind(0), BAD);
        x.person(0, 0, 0);
        int[][] bad = {{-1, 1, 1, 1}, {1, 1, 1, 1}, {0, -1, 1, 1}, {0, 1, 161, 1}, {0, 161, 161, 1}, {0, 2, 1, 1},
            {0, 1, 1, 0}, {0, 1, 1, 100}, {0, -2, -1, 1}};
        for (int[] b : bad) due("bad", x.draw(b[0], b[1], b[2], b[3]), BAD);
        x.paper(0, ONCE, 50, 10, 10, 0);
        due("all years", x.draw(0, 0, 160, 1), 0);
        due("behind", x.behind(0), 110);
        due("one year", x.draw(0, 51, 51, 99), 1);
        due("and that", x.behind(0), 209);
        due("up to seen", x.draw(0, 40, 50, 9), 2);
        due("none by it", x.behind(0), 209);
        x.person(0, 0, 0);
        due("without papers", x.draw(1, 0, 1, 7), 3);
        due("behind 0", x.behind(1), 7);
        x.paper(0, GAIN, 100, 10, 10, 0);
        due("a gain is not seen", x.behind(0), 209);
        for (int i = 4; i < 20; i++) due("draw", x.draw(0, 1, 2, 3), i);
        due("twenty one", x.draw(0, 1, 2, 3), FULL);
        due("bad ahead of full", x.draw(0, 2, 1, 3), BAD);
        due("behind below", x.behind(-1), BAD);
        due("behind above", x.behind(2), BAD);
    }

    private static void suspect() {
        begin("28");
        for (int p = 0; p < 5; p++) x.person(0, 0, 0);
        x.draw(1, 10, 10, 5);
        x.draw(2, 10, 10, 9);
        x.draw(3, 10, 10, 3);
        x.draw(3, 11, 11, 2);
        x.draw(4, 0, 0, 99);
        int[] want = {2, 1, 3, NONE, NONE};
        for (int i = 0; i < 5; i++) due("suspect " + i, x.suspect(i), want[i]);
        due("below", x.suspect(-1), NONE);
        due("far", x.suspect(MAX), NONE);
        due("far below", x.suspect(MIN), NONE);
        x.draw(0, 7, 7, 1);
        due("by one penny", x.suspect(3), 0);
        for (int p = 5; p < 10; p++) x.person(0, 0, 0);
        for (int p = 0; p < 10; p++) x.draw(p, 100, 100, 99 - p);
        due("the tenth", x.suspect(9), 9);
        due("no eleventh", x.suspect(10), NONE);
    }

    private static void heap() {
        begin("29");
        due("without", x.heap(3), 0);
        x.person(0, 0, 0);
        x.person(0, 0, 0);
        x.paper(0, COUNT, 100, 40, 10, 0);
        due("one", x.heap(3), 500);
        for (int age : new int[] {50, 65, 61, 0}) x.paper(0, COUNT, 100, age, 10, 0);
        x.paper(0, PASSED, 100, 50, 10, 0);
        x.paper(1, COUNT, 100, 99, 10, 0);
        x.paper(1, GAIN, 100, 55, 10, 0);
        int[] want = {3, 1, 2, 333};
        for (int what = 0; what < 4; what++) due("heap " + what, x.heap(what), want[what]);
        x.correct(3, 60);
        due("more", x.heap(3), 416);
        due("below", x.heap(-1), BAD);
        due("above", x.heap(4), BAD);
    }

    private static void valley() {
        begin("30");
        for (int p = 0; p < 4; p++) x.person(p == 3 ? 5 : 2, 0, 0);
        x.paper(0, LATE, 100, 40, 0, 0);
        x.paper(1, LATE, 100, 40, 10, 0);
        x.paper(2, ONCE, 30, 40, 0, 0);
        x.paper(3, ONCE, 100, 0, 0, 0);
        int[][] want = {{59, 1, 2, 2}, {60, 0, 2, 2}, {61, 0, 2, 2}, {62, 0, 0, 1}, {0, 2, 2, 2}, {100, 0, 0, 1},
            {101, 0, 0, 0}, {160, 0, 0, 0}};
        for (int[] w : want) {
            for (int what = 0; what < 3; what++) {
                due("valley 2 " + w[0] + " " + what, x.valley(2, w[0], what), w[what + 1]);
            }
        }
        for (int what = 0; what < 3; what++) {
            due("another house", x.valley(5, 100, what), 1);
            due("no one", x.valley(0, 0, what), 0);
        }
        x.person(1, 0, 0);
        x.lifeOf(1);
        for (int what = 0; what < 3; what++) due("weighs 1 in all", x.valley(1, 0, what), 1);
        int[][] bad = {{-1, 0, 0}, {6, 0, 0}, {0, -1, 0}, {0, 161, 0}, {0, 0, -1}, {0, 0, 3}};
        for (int[] b : bad) due("bad", x.valley(b[0], b[1], b[2]), BAD);
    }

    private static void question() {
        begin("31");
        due("no one", x.question(0, 1, 1), BAD);
        x.person(0, 0, 0);
        int[][] bad = {{-1, 1, 1}, {1, 1, 1}, {0, -1, 1}, {0, 161, 1}, {0, 1, 0}, {0, 1, 100}};
        for (int[] b : bad) due("bad", x.question(b[0], b[1], b[2]), BAD);
        due("least", x.question(0, 0, 1), 0);
        due("greatest", x.question(0, 160, 99), 1);
        for (int i = 2; i < 8; i++) due("question", x.question(0, 5, 5), i);
        due("the ninth", x.question(0, 5, 5), FULL);
        due("bad ahead of full", x.question(0, 5, 0), BAD);
        due("eight", x.many(5), 8);
    }

    private static void answer() {
        begin("32");
        due("none", x.answer(0, true), BAD);
        x.person(0, 0, 0);
        x.person(0, 0, 0);
        for (int p = 0; p < 2; p++) x.paper(p, ONCE, 9, 4, 50, 0);
        x.question(0, 6, 1);
        x.question(0, 1, 1);
        x.question(0, 8, 1);
        due("below", x.answer(-1, true), BAD);
        due("above", x.answer(3, true), BAD);
        due("not answered", x.all(0), 50000);
        due("yes", x.answer(0, true), 1);
        due("up to it", x.weight(0, 6), 5000);
        due("behind it", x.weight(0, 7), 0);
        due("no", x.answer(1, false), 2);
        due("that", x.weight(0, 1), 0);
        due("behind that", x.weight(0, 2), 5000);
        due("again", x.answer(1, true), STATE);
        due("it stays", x.all(0), 25000);
        due("another one", x.all(1), 50000);
        due("answered", x.many(6), 2);
        due("no year is left", x.answer(2, false), 3);
        due("no best", x.best(0), NONE);
    }

    private static void next() {
        begin("33");
        due("no one", x.next(0), BAD);
        x.person(0, 0, 0);
        x.person(0, 0, 0);
        due("no question", x.next(0), NONE);
        x.paper(0, ONCE, 9, 4, 50, 0);
        x.question(1, 4, 1);
        due("another one's", x.next(0), NONE);
        due("its own", x.next(1), 0);
        x.question(0, 4, 10);
        due("one", x.next(0), 1);
        x.question(0, 0, 6);
        x.question(0, 8, 5);
        x.question(0, 0, 5);
        due("of several the least number", x.next(0), 3);
        x.answer(3, true);
        due("by what is left", x.next(0), 4);
        x.answer(4, false);
        due("then", x.next(0), 1);
        x.answer(1, true);
        due("the last", x.next(0), 2);
        x.answer(2, true);
        due("none is left", x.next(0), NONE);
        x.question(0, 3, 99);
        x.question(0, 3, 98);
        due("without weights the least number", x.next(0), 5);
        due("below", x.next(-1), BAD);
        due("above", x.next(2), BAD);
    }

    private static void proveAndRow() {
        begin("34 to 36");
        due("no one", x.prove(0), BAD);
        for (int p = 0; p < 3; p++) x.person(0, 0, 0);
        x.paper(1, ONCE, 60, 20, 10, 0);
        x.paper(2, ONCE, 60, 70, 0, 0);
        x.paper(1, LATE, 60, 30, 40, 0);
        due("no row", x.row(0, 0), -9);
        due("no row to alter", x.alterRow(0, 0, 1), -9);
        due("prove", x.prove(1), 3);
        int[][] want = {{1, 20}, {0, 1}, {2, 0}};
        for (int i = 0; i < 3; i++) {
            for (int what = 0; what < 2; what++) due("row", x.row(i, what), want[i][what]);
            due("what below", x.row(i, -1), -9);
            due("what above", x.row(i, 2), -9);
        }
        due("no best", x.prove(2), NONE);
        due("below", x.prove(-1), BAD);
        due("above", x.prove(3), BAD);
        due("the rows stay", x.many(7), 3);
        due("row below", x.row(-1, 0), -9);
        due("row above", x.row(3, 0), -9);
        due("alter below", x.alterRow(-1, 0, 5), -9);
        due("alter above", x.alterRow(3, 0, 5), -9);
        due("alter what below", x.alterRow(0, -1, 5), -9);
        due("alter what above", x.alterRow(0, 2, 5), -9);
        due("alter", x.alterRow(2, 1, MIN), 0);
        due("altered", x.row(2, 1), MIN);
        due("the other stays", x.row(2, 0), 2);
        due("without papers", x.prove(0), 1);
        due("fewer rows", x.row(1, 0), -9);
        for (int i = 0; i < 6; i++) x.paper(0, ONCE, 50, 20, 10, 0);
        due("seven rows", x.prove(0), 7);
        due("the seventh", x.row(6, 0), 8);
    }

    private static void judgeAltered(int row, int what, int v, int want) {
        int was = x.alterRow(row, what, v);
        due("judge " + row + " " + what + " as " + v, x.judge(), want);
        x.alterRow(row, what, was);
        due("judge what is right again", x.judge(), 0);
    }

    private static void judge() {
        begin("37");
        due("no rows", x.judge(), 30);
        for (int p = 0; p < 3; p++) x.person(0, 0, 0);
        x.paper(1, ONCE, 60, 20, 10, 0);
        x.paper(0, LATE, 60, 20, 40, 0);
        x.paper(1, LATE, 60, 30, 40, 0);
        x.prove(1);
        due("right", x.judge(), 0);
        int[][] first = {{0, 0}, {0, 2}, {0, -1}, {0, 3}, {0, MAX}, {1, 21}, {1, -3}, {1, MIN}};
        for (int[] f : first) judgeAltered(0, f[0], f[1], 1);
        for (int v : new int[] {1, 2, -1, 3, 99}) judgeAltered(1, 0, v, 2);
        for (int v : new int[] {0, 2, -1}) judgeAltered(1, 1, v, 2);
        for (int v : new int[] {0, 1, 3}) judgeAltered(2, 0, v, 3);
        for (int v : new int[] {1, 2, -1}) judgeAltered(2, 1, v, 3);
        x.paper(1, GAIN, 60, 10, 40, 0);
        due("too few", x.judge(), 20);
        x.prove(1);
        due("right once more", x.judge(), 0);
        x.paper(1, ONCE, 60, 61, 0, 0);
        due("no best any more", x.judge(), 1);
        x.alterRow(0, 1, NONE);
        due("nor is NONE one", x.judge(), 1);
        x.prove(0);
        due("another one", x.judge(), 0);
        x.alterRow(0, 0, 2);
        x.alterRow(0, 1, 0);
        due("more rows than papers", x.judge(), 2);
        x.prove(2);
        due("the first alone", x.judge(), 0);
        for (int v : new int[] {3, -1, 99}) judgeAltered(0, 0, v, 1);
    }

    private static void sheet() {
        begin("38");
        int[][] bad = {{-1, 0, 0}, {4, 0, 0}, {0, -2, 0}, {0, 4, 0}, {0, 0, 41}, {4, 0, -1}, {0, 4, -1}};
        for (int[] b : bad) due("bad", x.sheet(b[0], b[1], b[2]), BAD);
        due("below 0", x.sheet(0, 0, -1), -14);
        due("far below 0", x.sheet(0, 3, MIN), -14);
        due("still missing", x.item(0, 0, 0), -11);
        due("forty", x.sheet(0, 2, 40), 1);
        due("the last", x.put(0, 39, 7), 1);
        due("no more", x.put(0, 40, 7), -12);
        due("refused", x.sheet(0, 2, 41), BAD);
        due("it stays", x.item(0, 2, 39), 7);
        due("anew", x.sheet(0, 2, 40), 1);
        due("all 0", x.item(0, 2, 39), 0);
        due("none", x.sheet(0, 1, 0), 1);
        due("no place", x.item(0, 1, 0), -12);
        due("missing", x.sheet(0, -1, 99), 1);
        due("it is", x.put(0, 0, 0), -11);
        due("missing, n below", x.sheet(1, -1, -5), 1);
    }

    private static void putAndItem() {
        begin("39 and 40");
        due("sheet below", x.put(-1, 0, 0), BAD);
        due("sheet above", x.put(4, 0, 0), BAD);
        due("item of below", x.item(-1, 0, 0), BAD);
        due("item of above", x.item(4, 0, 0), BAD);
        int v = 0x12348081;
        int[] want = {(byte) 0x81, (short) 0x8081, v, v};
        for (int sort = 0; sort < 4; sort++) {
            due("missing", x.put(sort, 0, 1), -11);
            due("nothing there", x.item(sort, sort, 0), -11);
            x.sheet(sort, sort, 3);
            due("below", x.put(sort, -1, 1), -12);
            due("above", x.put(sort, 3, 1), -12);
            due("put", x.put(sort, 2, v), 1);
            due("its neighbour", x.item(sort, sort, 1), 0);
            for (int as = 0; as < 4; as++) {
                due("item " + sort + " as " + as, x.item(sort, as, 2), as == sort ? want[sort] : -13);
                due("sort ahead of place", x.item(sort, as, 3), as == sort ? -12 : -13);
            }
            due("sort below", x.item(sort, -1, 0), BAD);
            due("sort above", x.item(sort, 4, 0), BAD);
            due("item below", x.item(sort, sort, -1), -12);
            due("item far", x.item(sort, sort, MAX), -12);
            x.put(sort, 0, -1);
            due("below 0", x.item(sort, sort, 0), -1);
        }
    }

    private static void register() {
        begin("41");
        x.person(0, 0, 0);
        x.person(0, 0, 0);
        int[] bytes = {60, 50, -1, 7, 71, 61, 80, -1, 127, 127, 3};
        x.sheet(1, 0, bytes.length);
        for (int i = 0; i < bytes.length; i++) x.put(1, i, bytes[i]);
        int[][] bad = {{-1, 1, 0, 1}, {2, 1, 0, 1}, {0, -1, 0, 1}, {0, 4, 0, 1}, {0, 1, 0, -1}, {0, 1, 0, 11}};
        for (int[] b : bad) due("bad", x.register(b[0], b[1], b[2], b[3]), BAD);
        due("missing", x.register(0, 0, 0, 0), -11);
        x.sheet(2, 1, 9);
        due("shorts", x.register(0, 2, 0, 0), -13);
        due("none", x.register(0, 1, 99, 0), 0);
        due("below", x.register(0, 1, -1, 2), -12);
        due("far", x.register(0, 1, MAX, 2), -12);
        due("far below", x.register(0, 1, MIN, 2), -12);
        due("none came", x.many(1), 0);
        due("what can be", x.register(0, 1, 0, 5), 3);
        int[][] want = {{60, 50}, {71, 61}, {127, 127}};
        for (int p = 0; p < 3; p++) {
            int[] of = {0, COUNT, want[p][0], want[p][1], 10, -9};
            for (int what = 0; what < 6; what++) due("it came", x.paperOf(p, what), of[what]);
        }
        due("half a pair", x.register(0, 1, 8, 2), -12);
        due("what stood ahead", x.many(1), 4);
        due("at the end", x.register(1, 1, 10, 1), -12);
        due("six at most", x.register(0, 1, 0, 1) + x.register(0, 1, 0, 1), 2);
        due("the seventh", x.register(0, 1, 0, 3), 0);
        due("full, and the end", x.register(0, 1, 8, 2), -12);
        x.sheet(3, 0, 40);
        due("ten", x.register(1, 3, 20, 10), 6);
        due("from the last", x.register(1, 3, 38, 1), 0);
    }

    private static void shelf() {
        begin("42");
        x.person(0, 0, 0);
        x.paper(0, ONCE, 50, 20, 10, 0);
        int[][] bad = {{-1, 0, 0}, {4, 0, 0}, {0, -1, 0}, {0, 4, 0}, {0, 0, 1}, {0, 0, -1}, {0, 1, 1}, {0, 1, -1},
            {0, 2, 4}, {0, 2, -1}, {4, 3, 0}};
        for (int[] b : bad) due("bad", x.shelf(b[0], b[1], b[2]), BAD);
        due("a paper", x.shelf(0, 0, 0), 1);
        due("a person", x.shelf(1, 1, 0), 1);
        due("no sheet", x.shelf(0, 2, 3), 1);
        due("nothing by it", x.taken(0, 0), -11);
        x.sheet(3, 2, 5);
        due("a sheet", x.shelf(3, 2, 3), 1);
        due("its row", x.taken(3, 12), 5);
        x.sheet(3, 0, 6);
        due("the row stays", x.taken(3, 12), 5);
        x.sheet(3, -1, 0);
        due("the row stays, the sheet missing", x.taken(3, 12), 5);
        due("nothing", x.shelf(3, 3, 99), 1);
        due("it is nothing", x.taken(3, 12), -11);
        due("another shelf", x.taken(1, 8), 0);
        due("bad changes nothing", x.shelf(1, 0, 9), BAD);
        due("so it stays", x.taken(1, 8), 0);
    }

    private static void taken() {
        begin("43");
        x.person(0, 0, 0);
        x.person(0, 0, 0);
        for (int kind = 1; kind <= 7; kind++) x.paper(kind / 7, kind, 50, 20, 10, 0);
        String[] under = {"", "01", "02", "03", "014", "025", "036", "0257"};
        for (int kind = 1; kind <= 7; kind++) {
            x.shelf(0, 0, kind - 1);
            for (int as = 0; as <= 8; as++) {
                boolean is = under[kind].indexOf('0' + as) >= 0;
                due("kind " + kind + " as " + as, x.taken(0, as), is ? kind - 1 : -13);
            }
            for (int as = 10; as <= 13; as++) due("a paper as a row", x.taken(0, as), -13);
        }
        x.shelf(1, 1, 1);
        for (int as = 0; as <= 8; as++) due("a person as " + as, x.taken(1, as), as == 8 ? 1 : -13);
        for (int sort = 0; sort < 4; sort++) {
            x.sheet(sort, sort, 9 + sort);
            x.shelf(2, 2, sort);
            for (int as = 10; as <= 13; as++) due("row", x.taken(2, as), as == 10 + sort ? 9 + sort : -13);
            for (int as = 0; as <= 8; as++) due("a row as a thing", x.taken(2, as), -13);
        }
        for (int as : new int[] {-1, 9, 14, MIN, MAX}) {
            due("bad as", x.taken(0, as), BAD);
            due("bad as of nothing", x.taken(3, as), BAD);
        }
        due("shelf below", x.taken(-1, 0), BAD);
        due("shelf above", x.taken(4, 0), BAD);
        due("nothing", x.taken(3, 10), -11);
    }

    private static void many() {
        begin("46");
        x.person(0, 0, 0);
        x.person(0, 0, 0);
        for (int i = 0; i < 3; i++) x.paper(0, ONCE, 50, 20, 10, 0);
        read("take 1=1; turn 1=1; take 1=1; turn 1=1;");
        for (int i = 1; i < 3; i++) x.rest(0, i);
        x.rest(1, 2);
        x.rest(2, 0);
        x.rest(2, 1);
        for (int i = 0; i < 6; i++) x.draw(0, 1, 1, 1);
        for (int i = 0; i < 7; i++) x.question(0, 50, 1);
        for (int i = 0; i < 2; i++) x.answer(i, true);
        x.prove(0);
        x.feed(0, 8);
        x.shelf(0, 0, 0);
        x.act(0, 3, 0);
        int[] want = {2, 3, 4, 5, 6, 7, 2, 4, 8, 3};
        for (int what = 0; what < 10; what++) due("many " + what, x.many(what), want[what]);
        due("below", x.many(-1), BAD);
        due("above", x.many(10), BAD);
    }

    private static void acts(int[] x3, int[] want, int[][] traces) {
        for (int act = 0; act < 4; act++) {
            due("act " + act, x.act(0, act, x3[act]), want[act]);
            due("its trace", x.many(9), traces[act].length);
            for (int i = 0; i < traces[act].length; i++) due("body " + i, x.trace(i), traces[act][i]);
            due("behind the last", x.trace(traces[act].length), NONE);
        }
    }

    private static void things() {
        begin("44 and 45");
        x.person(0, 0, 0);
        x.person(0, 0, 0);
        for (int kind = 1; kind <= 7; kind++) x.paper(kind / 7, kind, 60, 19 + kind, 10, 0);
        int[] with = {5, 5, 99, 5};
        int[][] want = {{25, 50, 4, 50}, {25, 50, 4, 51}, {27, 78, 4, 76}, {28, 56, 4, 177}, {4, 8, 5, 12},
            {30, -90, 4, -93}, {20, 40, 5, 46}};
        int[][][] traces = {
            {{10}, {11, 10}, {12}, {13, 11, 10}},
            {{20, 10}, {11, 20, 10}, {12}, {13, 11, 20, 10}},
            {{10}, {30, 11, 10, 10}, {12}, {13, 30, 11, 10, 10}},
            {{10}, {11, 10}, {12}, {40, 13, 11, 10}},
            {{50, 20, 10}, {11, 50, 20, 10}, {51, 12}, {13, 11, 50, 20, 10}},
            {{10}, {60, 30, 11, 10, 10}, {12}, {61, 13, 60, 30, 11, 10, 10, 12}},
            {{70, 50, 20, 10}, {11, 70, 50, 20, 10}, {51, 12}, {13, 11, 70, 50, 20, 10}}};
        for (int kind = 0; kind < 7; kind++) {
            x.shelf(0, 0, kind);
            acts(with, want[kind], traces[kind]);
        }
        x.shelf(0, 1, 1);
        acts(with, new int[] {55, 6, 32, 61}, new int[][] {{80}, {81}, {82}, {83, 80, 81}});
        x.paper(1, ONCE, 75, 20, 10, 0);
        due("a person as it is now", x.act(0, 0, 5), 70);
        due("trace below", x.trace(-1), NONE);
        noActs();
        edgesOfActs();
    }

    private static void noActs() {
        int[][] none = {{-1, 0}, {4, 0}, {0, -1}, {0, 4}, {1, 0}, {2, 3}};
        x.sheet(0, 0, 5);
        x.shelf(2, 2, 0);
        for (int[] n : none) {
            x.act(0, 0, 5);
            due("a trace", x.many(9), 1);
            due("no act", x.act(n[0], n[1], 5), 0);
            due("no trace", x.many(9), 0);
            due("no body", x.trace(0), NONE);
        }
    }

    private static void edgesOfActs() {
        x.shelf(0, 0, 0);
        due("wraps", x.act(0, 0, MAX), MIN + 19);
        due("wraps twice", x.act(0, 1, MAX), 38);
        x.correct(0, 0);
        due("parted by 0", x.act(0, 2, 7), -15);
        due("the body ran", x.trace(0), 12);
        x.shelf(0, 0, 5);
        x.correct(5, 5);
        due("parted by 0 at the end", x.act(0, 3, 7), -15);
        due("all bodies ran", x.many(9), 8);
        x.shelf(0, 0, 1);
        x.correct(1, 0);
        due("by -1", x.act(0, 2, MIN), MIN);
        due("as corrected", x.act(0, 0, 5), 4);
        due("cut to 0", x.act(0, 2, 0), 0);
        x.shelf(0, 0, 2);
        x.correct(2, 5);
        due("cut", x.act(0, 2, -8), -2);
        x.shelf(0, 0, 4);
        due("wraps ahead of parting", x.act(0, 2, MAX), MIN / 20);
        due("one more ahead of parting", x.act(0, 2, 98), 4);
        x.shelf(0, 0, 5);
        x.correct(5, 7);
        due("fits is added", x.act(0, 3, 5), -37);
    }

    private static void keepAndAgain() {
        begin("47 and 48");
        due("nothing is kept", x.again(), NONE);
        fill();
        due("keep", x.keep(), 1);
        int[] all = told();
        change();
        int[] changed = told();
        for (int i = 0; i < all.length; i++) due("changed " + i, all[i] != changed[i] ? 1 : 0, 1);
        x.shelf(0, 0, 1);
        x.shelf(1, 1, 1);
        x.shelf(2, 0, 0);
        x.feed(0, 3);
        x.sheet(2, 1, 3);
        x.prove(0);
        x.act(2, 0, 0);
        due("again", x.again(), 1);
        int[] once = told();
        for (int i = 0; i < all.length; i++) due("as kept " + i, once[i], all[i]);
        due("rows stay", x.many(7), 3);
        due("the tape stays", x.many(8), 3);
        due("the trace stays", x.many(9), 1);
        due("sheets stay", x.item(2, 1, 2), 0);
        due("a paper that is no more", x.taken(0, 0), -11);
        due("a person that is no more", x.taken(1, 8), -11);
        due("no act of it", x.act(0, 0, 5), 0);
        due("a paper that is", x.taken(2, 0), 0);
        change();
        due("again once more", x.again(), 1);
        int[] twice = told();
        for (int i = 0; i < all.length; i++) due("as kept, once more " + i, twice[i], all[i]);
        change();
        x.keep();
        x.correct(0, 33);
        x.again();
        int[] latest = told();
        for (int i = 0; i < all.length; i++) due("as kept latest " + i, latest[i], changed[i]);
    }

    private static void fill() {
        x.person(1, 1, 1);
        x.paper(0, ONCE, 50, 20, 10, 0);
        x.question(0, 30, 5);
        read("take 1=1;");
    }

    private static void change() {
        x.person(1, 1, 1);
        x.paper(0, LATE, 55, 22, 40, 0);
        x.correct(0, 23);
        x.rest(0, 1);
        x.truth(0, 20);
        x.draw(0, 1, 90, 1);
        x.answer(0, true);
        x.question(0, 21, 5);
        x.lifeOf(9);
        read("turn 1=2; turn 1=1;");
    }

    private static int[] told() {
        int[] all = {x.many(0), x.many(1), x.many(2), x.many(3), x.many(4), x.many(5), x.many(6), x.personOf(0, 3),
            x.paperOf(0, 3), x.personOf(0, 5), x.behind(0), (int) x.all(0), x.best(0), x.takes(0), x.stands(),
            (int) x.weight(0, 10)};
        return all;
    }
}
