/** Edges of draws, heaps, valleys, questions and rows: terms 4 to 6, promises 26 to 37. */
public final class JudgeEdgeTests extends Edge {
    public static void main(String[] args) {
        JudgeEdgeTests tests = new JudgeEdgeTests();
        tests.drawsAndHeaps();
        tests.valleys();
        tests.questions();
        tests.rows();
        tests.checks.end("JudgeEdgeTests");
    }

    // ---- term 4

    private void drawsAndHeaps() {
        twentyDraws();
        numbersOfDraws();
        behind();
        suspects();
        heaps();
        partsOfHeaps();
    }

    private void twentyDraws() {
        of("DRAWS, 20 at most, numbered as they come");
        persons(2);
        for (int i = 0; i < 20; i++) due("draw", x.draw(i % 2, 10, 10, 1 + i), i);
        due("the twenty-first", x.draw(0, 10, 10, 1), FULL);
        due("the twenty-first of another one", x.draw(1, 0, 160, 99), FULL);
        due("bad ahead of full", x.draw(0, 11, 10, 1), BAD);
        due("how many", x.many(4), 20);
        due("paid to 0", x.behind(0), 100);
        due("paid to 1", x.behind(1), 110);
        fresh();
        persons(1);
        due("a refused one", x.draw(0, 10, 10, 0), BAD);
        due("takes no number", x.draw(0, 10, 10, 1), 0);
    }

    private void numbersOfDraws() {
        of("a PERSON is paid pence (1 to 99) each YEAR from one to another one .. BAD: also from behind to");
        int[][] taken = {{0, 0, 1, 0}, {0, 1, 99, 99}, {1, 1, 99, 99}, {160, 160, 7, 7}, {0, 160, 1, 160},
            {159, 160, 50, 100}, {0, 160, 99, 15840}};
        for (int[] d : taken) {
            fresh();
            persons(1);
            due("draw " + d[0] + " " + d[1] + " " + d[2], x.draw(0, d[0], d[1], d[2]), 0);
            due("so behind 0", x.behind(0), d[3]);
        }
        int[][] bad = {{1, 0, 1}, {160, 159, 1}, {160, 0, 1}, {-1, 0, 1}, {-1, -1, 1}, {161, 161, 1}, {0, 161, 1},
            {0, -1, 1}, {0, 0, 0}, {0, 0, 100}, {0, 0, -1}, {MIN, MAX, 1}, {MAX, MIN, 1}, {0, 0, MAX}, {0, 0, MIN}};
        fresh();
        persons(1);
        for (int[] d : bad) {
            due("draw " + d[0] + " " + d[1] + " " + d[2], x.draw(0, d[0], d[1], d[2]), BAD);
            due("none came", x.many(4), 0);
        }
        due("nothing is paid", x.behind(0), 0);
    }

    private void behind() {
        of("BEHIND of a PERSON: what was paid in YEARS behind SEEN");
        int[][] draws = {{50, 50, 0}, {0, 50, 0}, {49, 49, 0}, {0, 49, 0}, {0, 0, 0}, {51, 51, 1},
            {50, 51, 1}, {0, 160, 110}, {51, 160, 110}, {160, 160, 1}};
        for (int[] d : draws) {
            onePaper(ONCE, 50, 20, 10);
            persons(1);
            x.draw(0, d[0], d[1], 9);
            due("from " + d[0] + " to " + d[1], x.behind(0), 9 * d[2]);
            due("another one", x.behind(1), 0);
        }
        onePaper(GAIN, 100, 20, 10);
        x.draw(0, 0, 160, 1);
        due("a gain isn't seen", x.behind(0), 160);
        x.paper(0, ONCE, 159, 20, 10, 0);
        due("seen in 159", x.behind(0), 1);
        x.paper(0, ONCE, 160, 20, 10, 0);
        due("seen in 160", x.behind(0), 0);
        fresh();
        persons(1);
        for (int i = 0; i < 20; i++) x.draw(0, 0, 160, 99);
        due("all there may be", x.behind(0), 20 * 160 * 99);
    }

    private void suspectsAre(int... want) {
        for (int i = 0; i < want.length; i++) due("suspect " + i, x.suspect(i), want[i]);
        due("suspect " + want.length, x.suspect(want.length), NONE);
        for (int i : new int[] {-1, 10, MIN, MAX}) due("suspect " + i, x.suspect(i), NONE);
    }

    private void suspects() {
        of("SUSPECTS: PERSONS with BEHIND above 0, the greatest first, of several the least number");
        suspectsAre();
        persons(10);
        suspectsAre();
        for (int p = 9; p >= 0; p--) x.draw(p, 1, 1, 5);
        suspectsAre(0, 1, 2, 3, 4, 5, 6, 7, 8, 9);
        x.draw(9, 2, 2, 1);
        suspectsAre(9, 0, 1, 2, 3, 4, 5, 6, 7, 8);
        x.draw(4, 2, 2, 1);
        suspectsAre(4, 9, 0, 1, 2, 3, 5, 6, 7, 8);
        x.draw(0, 2, 2, 2);
        suspectsAre(0, 4, 9, 1, 2, 3, 5, 6, 7, 8);
        x.paper(1, ONCE, 1, 0, 10, 0);
        suspectsAre(0, 4, 9, 2, 3, 5, 6, 7, 8);
        for (int p = 2; p < 10; p++) x.paper(p, ONCE, 160, 0, 10, 0);
        suspectsAre(0);
        fresh();
        persons(3);
        x.draw(2, 1, 1, 1);
        suspectsAre(2);
    }

    private void heapIs(int tens, int fives, int others, int part) {
        int[] want = {tens, fives, others, part};
        for (int what = 0; what < 4; what++) due("heap " + what, x.heap(what), want[what]);
        for (int what : new int[] {-1, 4, MIN, MAX}) due("heap " + what, x.heap(what), BAD);
    }

    private void heaps() {
        of("of all COUNTS: how many TELL an age that ends in 0 (0), in 5 (1), another one (2)");
        heapIs(0, 0, 0, 0);
        for (int age = 0; age <= 160; age++) {
            onePaper(COUNT, 160, age, 10);
            int end = age % 10;
            heapIs(end == 0 ? 1 : 0, end == 5 ? 1 : 0, end == 0 || end == 5 ? 0 : 1, end == 0 || end == 5 ? 500 : 0);
        }
        for (int kind = 1; kind <= 7; kind++) {
            onePaper(kind == COPY ? ONCE : kind, 160, 50, 10);
            if (kind == COPY) x.paper(0, COPY, 160, 55, 10, 0);
            heapIs(kind == COUNT ? 1 : 0, 0, 0, kind == COUNT ? 500 : 0);
        }
    }

    private void partsOfHeaps() {
        of("500 times those of 0 and 5 by all of them, 0 without (3)");
        persons(5);
        int[] ages = {1, 10, 5, 7, 3, 0, 160};
        int[][] want = {{0, 0, 1, 0}, {1, 0, 1, 250}, {1, 1, 1, 333}, {1, 1, 2, 250}, {1, 1, 3, 200}, {2, 1, 3, 250},
            {3, 1, 3, 285}};
        for (int i = 0; i < ages.length; i++) {
            x.paper(i % 5, COUNT, 160, ages[i], 10, 0);
            heapIs(want[i][0], want[i][1], want[i][2], want[i][3]);
        }
        fresh();
        persons(5);
        for (int i = 0; i < 30; i++) x.paper(i / 6, COUNT, 160, i == 29 ? 44 : 45, 10, 0);
        heapIs(0, 29, 1, 483);
        x.correct(29, 50);
        heapIs(1, 29, 0, 500);
    }

    // ---- term 5

    private void valleyIs(int house, int age, int sure, int best, int any) {
        int[] want = {sure, best, any};
        for (int what = 0; what < 3; what++) {
            due("valley " + house + ", age " + age + ", " + what, x.valley(house, age, what), want[what]);
        }
        for (int what : new int[] {-1, 3, MIN, MAX}) due("what " + what, x.valley(house, age, what), BAD);
    }

    private void valleys() {
        of("SHARE of n 1 (0: sure), AGE n or more (1), SHARE above 0 (2)");
        onePaper(ONCE, 100, 40, 0);
        valleyIs(0, 0, 1, 1, 1);
        valleyIs(0, 60, 1, 1, 1);
        valleyIs(0, 61, 0, 0, 0);
        onePaper(LATE, 100, 40, 0);
        valleyIs(0, 59, 1, 1, 1);
        valleyIs(0, 60, 0, 1, 1);
        valleyIs(0, 61, 0, 1, 1);
        valleyIs(0, 62, 0, 0, 0);
        onePaper(ONCE, 100, 40, 1);
        valleyIs(0, 0, 1, 1, 1);
        valleyIs(0, 1, 0, 1, 1);
        valleyIs(0, 60, 0, 1, 1);
        valleyIs(0, 61, 0, 0, 1);
        valleyIs(0, 100, 0, 0, 1);
        valleyIs(0, 101, 0, 0, 0);
        valleyIs(0, 160, 0, 0, 0);
        onePaper(ONCE, 160, 0, 0);
        valleyIs(0, 160, 1, 1, 1);
        onePaper(ONCE, 100, 101, 0);
        due("ALL is 0", x.all(0), 0);
        valleyIs(0, 0, 0, 0, 0);
        fresh();
        persons(1);
        valleyIs(0, 0, 1, 1, 1);
        valleyIs(0, 1, 0, 0, 0);
        x.lifeOf(1);
        due("ALL is 1", x.all(0), 1);
        valleyIs(0, 0, 1, 1, 1);
        valleyIs(0, 1, 0, 0, 0);
        of("a HOUSE and an age n: PERSONS of it");
        for (int house = 0; house <= 5; house++) x.person(house, 0, 0);
        for (int house = 0; house <= 5; house++) valleyIs(house, 0, 1, 1, 1);
        for (int i = 0; i < 4; i++) x.person(5, 0, 0);
        valleyIs(5, 0, 5, 5, 5);
        valleyIs(4, 0, 1, 1, 1);
        for (int house : new int[] {-1, 6, MIN, MAX}) due("house " + house, x.valley(house, 0, 0), BAD);
        for (int age : new int[] {-1, 161, MIN, MAX}) due("age " + age, x.valley(0, age, 0), BAD);
    }

    // ---- term 6

    private void questions() {
        eightQuestions();
        answers();
        next();
        pricesOfNext();
    }

    private void eightQuestions() {
        of("QUESTIONS, 8 at most, numbered as they come");
        persons(2);
        for (int i = 0; i < 8; i++) due("question", x.question(i % 2, i * 20, i == 0 ? 1 : 99), i);
        due("the ninth", x.question(0, 40, 5), FULL);
        due("the ninth, of another one", x.question(1, 160, 99), FULL);
        due("bad ahead of full", x.question(2, 40, 5), BAD);
        due("how many", x.many(5), 8);
        for (int i = 0; i < 8; i++) due("answered", x.answer(i, i % 2 == 0), i + 1);
        due("the ninth, though all are answered", x.question(0, 40, 5), FULL);
        due("no ninth", x.answer(8, true), BAD);
        due("eight answered", x.many(6), 8);
        of("was a PERSON born in a YEAR or ahead of it; COST (1 to 99)");
        persons(1);
        int[][] bad = {{1, 0, 1}, {-1, 0, 1}, {0, -1, 1}, {0, 161, 1}, {0, 0, 0}, {0, 0, 100}, {0, 0, -1},
            {MIN, 0, 1}, {0, MAX, 1}, {0, 0, MAX}, {0, 0, MIN}};
        for (int[] q : bad) due("bad", x.question(q[0], q[1], q[2]), BAD);
        due("none came", x.many(5), 0);
        due("least", x.question(0, 0, 1), 0);
        due("greatest", x.question(0, 160, 99), 1);
    }

    private void answers() {
        of("It is answered: how many are. BAD; STATE: it was");
        onePaper(ONCE, 80, 0, 50);
        for (int i = 0; i < 3; i++) x.question(0, 20 * i, 1);
        due("below", x.answer(-1, true), BAD);
        due("above", x.answer(3, true), BAD);
        due("none answered", x.many(6), 0);
        due("the last", x.answer(2, true), 1);
        due("it was", x.answer(2, true), STATE);
        due("it was, otherwise", x.answer(2, false), STATE);
        due("one answered", x.many(6), 1);
        due("all", x.all(0), 41 * 5000);
        due("the first, no", x.answer(0, false), 2);
        due("it was no", x.answer(0, true), STATE);
        due("it was no, the same", x.answer(0, false), STATE);
        due("all", x.all(0), 40 * 5000);
        due("the one between", x.answer(1, false), 3);
        due("all by three", x.all(0), 20 * 5000);
        due("best", x.best(0), 21);
    }

    private void next() {
        of("NEXT of a PERSON: of its QUESTIONS that aren't answered .. of several the least number. NONE");
        onePaper(ONCE, 9, 0, 50);
        persons(1);
        due("none", x.next(0), NONE);
        x.question(1, 0, 1);
        due("another one's", x.next(0), NONE);
        x.question(0, 4, 99);
        due("one", x.next(0), 1);
        x.question(0, 4, 99);
        due("of two alike the first", x.next(0), 1);
        x.question(0, 4, 98);
        due("the cheaper", x.next(0), 3);
        x.answer(3, true);
        due("by what is left", x.next(0), 1);
        x.answer(1, false);
        due("without weights the least number", x.next(0), 2);
        x.question(0, 160, 1);
        due("without weights, though it costs more", x.next(0), 2);
        x.answer(2, true);
        due("the last one", x.next(0), 4);
        x.answer(4, true);
        due("all are answered", x.next(0), NONE);
        due("the other one's", x.next(1), 0);
        due("no such person", x.next(2), BAD);
    }

    /** Which of two QUESTIONS is NEXT of a PERSON with like WEIGHTS in the years 0 to 155. */
    private void nextOf(int year, int cost, int otherYear, int otherCost, int want) {
        fresh();
        persons(1);
        for (int i = 0; i < 6; i++) x.paper(0, SPOKEN, 160, 160, 0, 0);
        x.question(0, year, cost);
        x.question(0, otherYear, otherCost);
        due(year + " for " + cost + ", " + otherYear + " for " + otherCost, x.next(0), want);
    }

    private void pricesOfNext() {
        of("COST times the greater one of both: WEIGHTS of YEARS up to it, and of those behind it");
        nextOf(77, 98, 146, 52, 0);
        nextOf(146, 52, 77, 98, 0);
        nextOf(77, 98, 147, 52, 0);
        nextOf(77, 98, 145, 52, 1);
        nextOf(77, 98, 8, 52, 0);
        nextOf(77, 98, 7, 52, 0);
        nextOf(77, 98, 9, 52, 1);
        nextOf(77, 99, 77, 98, 1);
        nextOf(160, 99, 0, 99, 1);
        nextOf(160, 99, 155, 99, 0);
        nextOf(155, 99, 160, 99, 0);
        nextOf(0, 99, 154, 99, 0);
        nextOf(0, 50, 77, 99, 1);
        nextOf(0, 49, 77, 99, 0);
        nextOf(160, 1, 77, 99, 0);
    }

    // ---- rows

    private void rows() {
        proofs();
        places();
        firstRow();
        otherRows();
        fewerAndMore();
        whatIsProved();
    }

    private void proofs() {
        of("ROWS become those of a PERSON: how many. BAD; NONE: it has no BEST");
        persons(3);
        due("without papers", x.prove(0), 1);
        due("the person", x.row(0, 0), 0);
        due("the best", x.row(0, 1), 0);
        due("right", x.judge(), 0);
        for (int i = 0; i < 6; i++) {
            x.paper(1, ONCE, 50 + i, 20, 10, 0);
            due("papers and one more", x.prove(1), i + 2);
            due("the last", x.row(i + 1, 0), i);
            due("right", x.judge(), 0);
        }
        x.paper(2, ONCE, 50, 51, 0, 0);
        due("none", x.prove(2), NONE);
        due("bad", x.prove(3), BAD);
        due("bad below", x.prove(-1), BAD);
        due("the rows stay", x.many(7), 7);
        due("they do", x.row(6, 0), 5);
        due("still right", x.judge(), 0);
        due("fewer", x.prove(0), 1);
        due("no second", x.row(1, 0), NOT_TOLD);
        due("as many as now", x.many(7), 1);
    }

    private void places() {
        of("-9: there is none such, another what");
        int[] wrong = {-1, 2, MIN, MAX};
        for (int what : new int[] {-1, 0, 1, 2}) {
            due("no rows", x.row(0, what), NOT_TOLD);
            due("none to alter", x.alterRow(0, what, 5), NOT_TOLD);
        }
        due("no row came", x.judge(), 30);
        onePaper(ONCE, 50, 20, 10);
        x.prove(0);
        for (int i : wrong) {
            due("row " + i, x.row(i, 0), NOT_TOLD);
            due("alter row " + i, x.alterRow(i, 0, 5), NOT_TOLD);
        }
        for (int what : wrong) {
            due("what " + what, x.row(1, what), NOT_TOLD);
            due("alter what " + what, x.alterRow(1, what, 5), NOT_TOLD);
        }
        due("nothing is altered", x.judge(), 0);
        due("how many", x.many(7), 2);
        of("It becomes v: what it was");
        onePaper(ONCE, 50, 20, 10);
        x.prove(0);
        int was = 20;
        for (int v : new int[] {MIN, MAX, -9, -1, 0, 161, 20}) {
            due("alter", x.alterRow(0, 1, v), was);
            due("altered", x.row(0, 1), v);
            due("the other stays", x.row(0, 0), 0);
            due("judged", x.judge(), v == 20 ? 0 : 1);
            was = v;
        }
    }

    private void threePapers() {
        fresh();
        persons(3);
        x.paper(1, ONCE, 50, 20, 10, 0);
        x.paper(0, ONCE, 50, 20, 10, 0);
        x.paper(1, ONCE, 50, 20, 10, 0);
        x.paper(1, ONCE, 50, 30, 40, 0);
        x.prove(1);
    }

    private void alteredIs(int row, int what, int v, int want) {
        threePapers();
        x.alterRow(row, what, v);
        due("row " + row + ", " + what + " is " + v, x.judge(), want);
    }

    private void firstRow() {
        of("The first: there is such a PERSON, and it has such a BEST");
        threePapers();
        due("right", x.judge(), 0);
        for (int v : new int[] {-1, 3, 10, MIN, MAX}) alteredIs(0, 0, v, 1);
        alteredIs(0, 0, 0, 2);
        alteredIs(0, 0, 2, 1);
        for (int v : new int[] {19, 21, -3, -1, 0, 161, MIN, MAX}) alteredIs(0, 1, v, 1);
        alteredIs(0, 1, 20, 0);
        for (int v : new int[] {-1, 1, 9, MIN, MAX}) {
            fresh();
            persons(1);
            x.prove(0);
            x.alterRow(0, 0, v);
            due("no one's best isn't 0 of " + v, x.judge(), 1);
        }
        threePapers();
        x.paper(1, ONCE, 50, 51, 0, 0);
        due("no best any more", x.judge(), 1);
        x.alterRow(0, 1, NONE);
        due("NONE is no best", x.judge(), 1);
        due("no proof", x.prove(1), NONE);
    }

    private void otherRows() {
        of("right is one whose PAPER is the next one of that PERSON by numbers, with 1 if its SPAN has that YEAR, else 0");
        int[] papers = {0, 2, 3};
        int[] spans = {1, 1, 0};
        for (int i = 0; i < 3; i++) {
            for (int v : new int[] {-1, 0, 1, 2, 3, 4, 30, MIN, MAX}) {
                alteredIs(i + 1, 0, v, v == papers[i] ? 0 : i + 2);
                alteredIs(i + 1, 1, v, v == spans[i] ? 0 : i + 2);
            }
        }
        threePapers();
        x.alterRow(3, 1, 1);
        x.alterRow(2, 1, 0);
        due("the first of two", x.judge(), 3);
        x.alterRow(1, 0, 2);
        due("the first of three", x.judge(), 2);
        x.alterRow(0, 1, 21);
        due("the first of all", x.judge(), 1);
        fresh();
        persons(1);
        for (int i = 0; i < 6; i++) x.paper(0, ONCE, 50, 20, 10, 0);
        x.prove(0);
        x.alterRow(6, 1, 0);
        due("the seventh row", x.judge(), 7);
    }

    private void fewerAndMore() {
        of("20: there are too few; 30: there are no ROWS");
        due("no rows", x.judge(), 30);
        persons(2);
        due("no rows still", x.judge(), 30);
        x.prove(1);
        due("one row", x.judge(), 0);
        x.paper(1, GAIN, 50, 0, 10, 0);
        due("too few by one", x.judge(), 20);
        x.prove(1);
        due("right again", x.judge(), 0);
        for (int i = 0; i < 5; i++) {
            x.paper(1, GAIN, 50, 0, 10, 0);
            due("too few", x.judge(), 20);
        }
        x.alterRow(1, 1, 0);
        due("wrong ahead of too few", x.judge(), 2);
        x.prove(1);
        x.alterRow(0, 0, 0);
        due("too many", x.judge(), 2);
    }

    private void whatIsProved() {
        of("ROWS: a PERSON, its PAPERS and whether their SPAN has BEST, proved");
        threePapers();
        int[][] want = {{1, 20}, {0, 1}, {2, 1}, {3, 0}};
        for (int i = 0; i < 4; i++) {
            due("first of " + i, x.row(i, 0), want[i][0]);
            due("second of " + i, x.row(i, 1), want[i][1]);
        }
        due("behind the last", x.row(4, 0), NOT_TOLD);
        x.correct(2, 21);
        x.correct(0, 21);
        due("as it was when proved", x.row(1, 1), 1);
        due("the best is another one", x.judge(), 1);
    }
}
