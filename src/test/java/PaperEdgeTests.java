/** Edges of persons and papers, weights, two lives, papers on papers: terms 1 and 2, promises 1 to 19. */
public final class PaperEdgeTests extends Edge {
    public static void main(String[] args) {
        PaperEdgeTests tests = new PaperEdgeTests();
        tests.calls();
        tests.personsAndPapers();
        tests.spans();
        tests.weights();
        tests.livesAndRests();
        tests.checks.end("PaperEdgeTests");
    }

    private void calls() {
        of("An object is used for at most 512 calls");
        persons(1);
        x.paper(0, ONCE, 50, 0, 10, 0);
        for (int i = 0; x.calls() < 511; i++) x.correct(0, i % 51);
        due("the 512th", x.paperOf(0, 3), 508 % 51);
        fresh();
        while (x.calls() < 502) x.all(0);
        for (int p = 0; p < 10; p++) due("persons up to the 512th call", x.person(5, 9, 1), p);
        fresh();
        for (int i = 0; i < 170; i++) due("texts", x.readText("take 1=1;"), 1);
        due("up to the 511th call", x.feed(' ', 1), 1);
        due("up to the 512th call", x.read(), 0);
    }

    // ---- term 1

    private void personsAndPapers() {
        aNewObject();
        tenPersons();
        housesNamesSexes();
        thirtyPapers();
        sixOfOne();
        numbersOfPapers();
        copyOfOneAhead();
        corrections();
    }

    private void aNewObject() {
        of("No persons, no papers, no way");
        for (int what = 0; what < 10; what++) due("how many, " + what, x.many(what), 0);
        due("a person", x.personOf(0, 0), BAD);
        due("a paper", x.paperOf(0, 0), BAD);
        due("those that stand", x.stands(), 0);
        due("a suspect", x.suspect(0), NONE);
        due("ages", x.heap(3), 0);
        due("a valley", x.valley(0, 0, 2), 0);
        due("errs", x.errs(0, 0) + x.errs(0, 1), 0);
        due("rows", x.judge(), 30);
        due("a body", x.trace(0), NONE);
        due("what is kept", x.again(), NONE);
        due("the tape", x.read(), 0);
    }

    private void tenPersons() {
        of("PERSONS, 10 at most, numbered as they come");
        for (int p = 0; p < 10; p++) due("person", x.person(p % 6, p, p % 2), p);
        due("the eleventh", x.person(0, 0, 0), FULL);
        due("the eleventh, once more", x.person(5, 9, 1), FULL);
        due("how many", x.many(0), 10);
        for (int p = 0; p < 10; p++) due("the name of " + p, x.personOf(p, 1), p);
        due("the eleventh's house", x.personOf(10, 0), BAD);
        fresh();
        due("a refused one", x.person(6, 0, 0), BAD);
        due("takes no number", x.person(0, 0, 0), 0);
    }

    private void housesNamesSexes() {
        of("a HOUSE (0 to 5), a NAME (0 to 9), a SEX (0, 1)");
        for (int house = -1; house <= 6; house++) {
            for (int name = -1; name <= 10; name++) {
                for (int sex = -1; sex <= 2; sex++) {
                    fresh();
                    boolean is = house >= 0 && house < 6 && name >= 0 && name < 10 && (sex == 0 || sex == 1);
                    due("person " + house + " " + name + " " + sex, x.person(house, name, sex), is ? 0 : BAD);
                    due("its house", x.personOf(0, 0), is ? house : BAD);
                    due("its name", x.personOf(0, 1), is ? name : BAD);
                    due("its sex", x.personOf(0, 2), is ? sex : BAD);
                }
            }
        }
    }

    private void thirtyPapers() {
        of("PAPERS, 30 at most, numbered as they come");
        persons(6);
        for (int i = 0; i < 30; i++) due("paper", x.paper(i % 5, ONCE, i, 0, 0, 0), i);
        due("the thirty-first", x.paper(5, ONCE, 1, 1, 1, 0), FULL);
        due("the thirty-first, a copy", x.paper(5, COPY, 1, 1, 1, 29), FULL);
        due("how many", x.many(1), 30);
        due("none of it", x.personOf(5, 4), 0);
        for (int i = 0; i < 30; i++) due("MADE of " + i, x.paperOf(i, 2), i);
        due("no thirty-first", x.paperOf(30, 0), BAD);
    }

    private void sixOfOne() {
        of("6 of one at most");
        persons(2);
        int[] kinds = {GAIN, ONCE, LATE, COUNT, PASSED, COPY};
        for (int i = 0; i < 6; i++) due("paper", x.paper(0, kinds[i], 9, 9, 9, 0), i);
        for (int kind = 1; kind <= 7; kind++) due("the seventh", x.paper(0, kind, 9, 9, 9, 0), FULL);
        due("six of it", x.personOf(0, 4), 6);
        due("another one's", x.paper(1, SPOKEN, 9, 9, 9, 0), 6);
        for (int i = 7; i < 12; i++) due("another one's", x.paper(1, ONCE, 9, 9, 9, 0), i);
        due("its seventh", x.paper(1, ONCE, 9, 9, 9, 0), FULL);
        due("bad ahead of full", x.paper(1, ONCE, 9, 9, 100, 0), BAD);
    }

    private void numbersOfPapers() {
        of("of a KIND, MADE in a YEAR, TELLS a number (0 to 160), WRONG (0 to 99)");
        for (int v = -2; v <= 162; v++) {
            boolean isYear = v >= 0 && v <= 160;
            fresh();
            persons(1);
            due("MADE " + v, x.paper(0, ONCE, v, 7, 8, 0), isYear ? 0 : BAD);
            due("it", x.paperOf(0, 2), isYear ? v : BAD);
            fresh();
            persons(1);
            due("TELLS " + v, x.paper(0, ONCE, 7, v, 8, 0), isYear ? 0 : BAD);
            due("it", x.paperOf(0, 3), isYear ? v : BAD);
            fresh();
            persons(1);
            boolean isWrong = v >= 0 && v <= 99;
            due("WRONG " + v, x.paper(0, ONCE, 7, 8, v, 0), isWrong ? 0 : BAD);
            due("it", x.paperOf(0, 4), isWrong ? v : BAD);
            fresh();
            persons(1);
            boolean isKind = v >= 1 && v <= 7 && v != COPY;
            due("KIND " + v, x.paper(0, v, 7, 8, 9, 0), isKind ? 0 : BAD);
            due("it", x.paperOf(0, 1), isKind ? v : BAD);
        }
    }

    private void copyOfOneAhead() {
        of("COPY, of a PAPER ahead of it (told)");
        persons(2);
        due("of none", x.paper(0, COPY, 5, 5, 5, 0), BAD);
        due("a paper", x.paper(0, ONCE, 5, 5, 5, 0), 0);
        due("of itself", x.paper(0, COPY, 5, 5, 5, 1), BAD);
        due("of one below", x.paper(0, COPY, 5, 5, 5, -1), BAD);
        due("of the first", x.paper(0, COPY, 5, 5, 5, 0), 1);
        due("of a copy, the latest", x.paper(1, COPY, 0, 5, 5, 1), 2);
        due("of one to come", x.paper(1, COPY, 5, 5, 5, 4), BAD);
        for (int kind = 1; kind <= 7; kind++) {
            if (kind == COPY) continue;
            int due = x.many(1);
            due("of counts nothing", x.paper(kind % 2, kind, 5, 5, 5, kind % 2 == 0 ? MIN : MAX), due);
            due("it is no copy", x.paperOf(due, 5), NOT_TOLD);
        }
        due("the copy's", x.paperOf(1, 5), 0);
        due("the copy's copy's", x.paperOf(2, 5), 1);
        due("no copy's", x.paperOf(0, 5), NOT_TOLD);
    }

    private void corrections() {
        of("TELLS of a PAPER becomes v: what it was");
        onePaper(ONCE, 160, 160, 10);
        due("0", x.correct(0, 0), 160);
        due("160", x.correct(0, 160), 0);
        due("161", x.correct(0, 161), BAD);
        due("-1", x.correct(0, -1), BAD);
        due("the same", x.correct(0, 160), 160);
        due("no such paper", x.correct(1, 0), BAD);
        due("its span", x.span(0, 160), 1);
    }

    private void spanIs(int kind, int made, int tells, int from, int to) {
        onePaper(kind, made, tells, 10);
        for (int year = 0; year <= 160; year++) {
            String call = "kind " + kind + " made " + made + " tells " + tells + " year " + year;
            due(call, x.span(0, year), year >= from && year <= to ? 1 : 0);
        }
        due("ahead of all years", x.span(0, -1), BAD);
        due("behind all years", x.span(0, 161), BAD);
    }

    private void noSpan(int kind, int made, int tells) {
        spanIs(kind, made, tells, 161, -1);
    }

    private void spans() {
        onceAndLate();
        counts();
        countsByAge();
        passedGainSpoken();
        copies();
    }

    private void onceAndLate() {
        of("YEARS (0 to 160, none behind MADE) .. ONCE: TELLS alone");
        spanIs(ONCE, 0, 0, 0, 0);
        spanIs(ONCE, 160, 160, 160, 160);
        spanIs(ONCE, 160, 0, 0, 0);
        spanIs(ONCE, 50, 50, 50, 50);
        noSpan(ONCE, 49, 50);
        noSpan(ONCE, 159, 160);
        noSpan(ONCE, 0, 1);
        of("LATE: TELLS, the YEAR ahead of it, and the one behind it");
        spanIs(LATE, 160, 160, 159, 160);
        spanIs(LATE, 160, 159, 158, 160);
        spanIs(LATE, 160, 0, 0, 1);
        spanIs(LATE, 160, 1, 0, 2);
        spanIs(LATE, 0, 0, 0, 0);
        spanIs(LATE, 0, 1, 0, 0);
        noSpan(LATE, 0, 2);
        spanIs(LATE, 50, 50, 49, 50);
        spanIs(LATE, 51, 50, 49, 51);
        spanIs(LATE, 52, 50, 49, 51);
        spanIs(LATE, 50, 51, 50, 50);
        noSpan(LATE, 50, 52);
    }

    private void counts() {
        of("COUNT: MADE less it, and as many YEARS ahead and behind as ..");
        spanIs(COUNT, 100, 0, 95, 100);
        spanIs(COUNT, 100, 1, 98, 100);
        spanIs(COUNT, 100, 2, 97, 99);
        spanIs(COUNT, 100, 100, 0, 5);
        spanIs(COUNT, 100, 99, 0, 2);
        spanIs(COUNT, 100, 101, 0, 0);
        noSpan(COUNT, 100, 102);
        spanIs(COUNT, 105, 105, 0, 2);
        spanIs(COUNT, 103, 105, 0, 0);
        noSpan(COUNT, 102, 105);
        spanIs(COUNT, 105, 110, 0, 0);
        noSpan(COUNT, 104, 110);
        spanIs(COUNT, 160, 160, 0, 5);
        spanIs(COUNT, 160, 0, 155, 160);
        spanIs(COUNT, 160, 5, 153, 157);
        spanIs(COUNT, 0, 0, 0, 0);
        noSpan(COUNT, 0, 5);
        spanIs(COUNT, 0, 1, 0, 0);
        noSpan(COUNT, 0, 160);
    }

    private void countsByAge() {
        of("5 if the age ends in 0, 2 if it ends in 5, else 1");
        for (int age = 10; age < 120; age++) {
            int more = age % 10 == 0 ? 5 : age % 10 == 5 ? 2 : 1;
            onePaper(COUNT, 140, age, 10);
            int middle = 140 - age;
            due(age + ": the first", x.span(0, middle - more), 1);
            due(age + ": ahead of it", x.span(0, middle - more - 1), 0);
            due(age + ": the last", x.span(0, middle + more), 1);
            due(age + ": behind it", x.span(0, middle + more + 1), 0);
        }
    }

    private void passedGainSpoken() {
        of("PASSED: MADE less it, and the YEAR ahead of that");
        spanIs(PASSED, 100, 40, 59, 60);
        spanIs(PASSED, 41, 40, 0, 1);
        spanIs(PASSED, 40, 40, 0, 0);
        noSpan(PASSED, 39, 40);
        spanIs(PASSED, 160, 0, 159, 160);
        spanIs(PASSED, 0, 0, 0, 0);
        spanIs(PASSED, 160, 160, 0, 0);
        of("GAIN: MADE less it, and all YEARS ahead");
        spanIs(GAIN, 100, 40, 0, 60);
        spanIs(GAIN, 40, 40, 0, 0);
        noSpan(GAIN, 39, 40);
        spanIs(GAIN, 160, 0, 0, 160);
        spanIs(GAIN, 0, 0, 0, 0);
        spanIs(GAIN, 160, 160, 0, 0);
        noSpan(GAIN, 0, 160);
        of("SPOKEN: that less 5, and all YEARS ahead");
        spanIs(SPOKEN, 160, 160, 0, 155);
        spanIs(SPOKEN, 160, 5, 0, 0);
        noSpan(SPOKEN, 160, 4);
        noSpan(SPOKEN, 160, 0);
        spanIs(SPOKEN, 0, 160, 0, 0);
        spanIs(SPOKEN, 0, 5, 0, 0);
        noSpan(SPOKEN, 0, 4);
        spanIs(SPOKEN, 100, 104, 0, 99);
        spanIs(SPOKEN, 100, 105, 0, 100);
        spanIs(SPOKEN, 100, 106, 0, 100);
    }

    private void copySpanIs(int made, int tells, int... years) {
        onePaper(ONCE, 160, 0, 10);
        x.paper(0, COPY, made, tells, 10, 0);
        for (int year = 0; year <= 160; year++) {
            boolean is = false;
            for (int y : years) if (y == year) is = true;
            due("copy made " + made + " tells " + tells + " year " + year, x.span(1, year), is ? 1 : 0);
        }
    }

    private void copies() {
        of("YEARS whose three digits (noughts ahead) differ from those of TELLS in one place at most");
        copySpanIs(160, 160, 60, 100, 110, 120, 130, 140, 150, 160);
        copySpanIs(159, 160, 60, 100, 110, 120, 130, 140, 150);
        copySpanIs(60, 160, 60);
        copySpanIs(59, 160);
        copySpanIs(160, 0, 0, 1, 2, 3, 4, 5, 6, 7, 8, 9, 10, 20, 30, 40, 50, 60, 70, 80, 90, 100);
        copySpanIs(0, 0, 0);
        copySpanIs(0, 11);
        copySpanIs(1, 11, 1);
        copySpanIs(160, 9, 0, 1, 2, 3, 4, 5, 6, 7, 8, 9, 19, 29, 39, 49, 59, 69, 79, 89, 99, 109);
        copySpanIs(160, 99, 9, 19, 29, 39, 49, 59, 69, 79, 89, 90, 91, 92, 93, 94, 95, 96, 97, 98, 99);
        copySpanIs(160, 100, 0, 100, 101, 102, 103, 104, 105, 106, 107, 108, 109, 110, 120, 130, 140, 150, 160);
        copySpanIs(160, 159, 59, 109, 119, 129, 139, 149, 150, 151, 152, 153, 154, 155, 156, 157, 158, 159);
        copySpanIs(160, 61, 1, 11, 21, 31, 41, 51, 60, 61, 62, 63, 64, 65, 66, 67, 68, 69, 71, 81, 91);
    }

    private void weights() {
        seen();
        lifeOfAges();
        lifeNumbers();
        weightsAtSeen();
        weightsLeftOut();
        wrongEdges();
        greatestAndLeast();
        bests();
        shares();
    }

    private void seen() {
        of("SEEN of a PERSON: the latest MADE of its PAPERS that are no GAIN; 0 without");
        persons(2);
        due("without papers", x.personOf(0, 3), 0);
        x.paper(0, GAIN, 160, 20, 10, 0);
        due("a gain alone", x.personOf(0, 3), 0);
        x.paper(0, ONCE, 0, 20, 10, 0);
        due("made in 0", x.personOf(0, 3), 0);
        x.paper(0, SPOKEN, 50, 20, 10, 0);
        due("made in 50", x.personOf(0, 3), 50);
        x.paper(0, COPY, 49, 20, 10, 0);
        due("an earlier one", x.personOf(0, 3), 50);
        x.paper(0, GAIN, 51, 20, 10, 0);
        due("a later gain", x.personOf(0, 3), 50);
        x.paper(0, COUNT, 160, 20, 10, 0);
        due("made in 160", x.personOf(0, 3), 160);
        due("another one's", x.personOf(1, 3), 0);
        for (int kind = 1; kind <= 7; kind++) {
            fresh();
            persons(2);
            x.paper(1, ONCE, 0, 0, 10, 0);
            x.paper(0, kind, 33, 20, 10, 0);
            due("kind " + kind, x.personOf(0, 3), kind == GAIN ? 0 : 33);
        }
    }

    private void lifeOfAges() {
        of("LIFE: 17 numbers (each 100 at first) for ages 0 to 9, 10 to 19, .., 160");
        onePaper(ONCE, 160, 0, 50);
        for (int age = 0; age <= 160; age++) due("at first, age " + age, x.weight(0, 160 - age), 5000);
        x.putShorts(0, 10, 11, 12, 13, 14, 15, 16, 17, 18, 19, 20, 21, 22, 23, 24, 25, 26);
        due("life", x.life(0), 1);
        for (int age = 0; age <= 160; age++) due("age " + age, x.weight(0, 160 - age), 50 * (10 + age / 10));
        fresh();
        persons(1);
        x.putShorts(0, 7, 0, 0, 0, 0, 0, 0, 0, 0, 0, 0, 0, 0, 0, 0, 0, 0);
        x.life(0);
        due("age 0 without papers", x.weight(0, 0), 7);
    }

    private void lifeNumbers() {
        of("STATE: it hasn't 17 numbers as told (0 to 100)");
        int[] above = {101, -1, 32767, -32768};
        for (int place = 0; place < 17; place++) {
            onePaper(ONCE, 160, 0, 50);
            x.lifeOf(7);
            x.sheet(0, 1, 17);
            for (int i = 0; i < 17; i++) x.put(0, i, 9);
            for (int v : above) {
                x.put(0, place, v);
                due(v + " at " + place, x.life(0), STATE);
            }
            for (int age = 0; age <= 160; age += 10) due("it stays at age " + age, x.weight(0, 160 - age), 350);
            x.put(0, place, 0);
            due("0 at " + place, x.life(0), 1);
            due("it is 0", x.weight(0, 160 - 10 * place), 0);
            x.put(0, place, 100);
            due("100 at " + place, x.life(0), 1);
            due("it is 100", x.weight(0, 160 - 10 * place), 5000);
        }
        for (int n = 0; n <= 40; n++) {
            onePaper(ONCE, 160, 0, 50);
            x.lifeOf(7);
            x.sheet(0, 1, n);
            due(n + " numbers", x.life(0), n == 17 ? 1 : STATE);
            for (int age = 0; age <= 160; age += 10) due("so", x.weight(0, 160 - age), n == 17 ? 0 : 350);
        }
    }

    private void weightsAtSeen() {
        of("WEIGHT: 0 if it is behind SEEN");
        for (int seen = 0; seen <= 160; seen += 20) {
            onePaper(ONCE, seen, 0, 50);
            due("at SEEN " + seen, x.weight(0, seen), 5000);
            due("behind it", x.weight(0, seen + 1), seen == 160 ? BAD : 0);
            due("at 0", x.weight(0, 0), 5000);
            due("all", x.all(0), 5000L * (seen + 1));
        }
        fresh();
        persons(1);
        due("without papers", x.weight(0, 0), 100);
        due("behind 0", x.weight(0, 1), 0);
        due("at 160", x.weight(0, 160), 0);
        due("all", x.all(0), 100);
        x.paper(0, GAIN, 160, 0, 0, 0);
        due("a gain alone", x.weight(0, 0), 10000);
        due("a gain alone, behind 0", x.weight(0, 1), 0);
    }

    private void weightsLeftOut() {
        of("yes leaves out YEARS behind it, no that and those ahead");
        for (int year : new int[] {0, 1, 40, 79, 80, 81, 159, 160}) {
            for (int answer = 0; answer < 2; answer++) {
                onePaper(ONCE, 80, 0, 50);
                persons(1);
                x.paper(1, ONCE, 80, 0, 50, 0);
                x.question(0, year, 1);
                due("not answered", x.all(0), 81 * 5000);
                x.answer(0, answer == 1);
                int upTo = Math.min(80, year) + 1;
                due("all, year " + year, x.all(0), 5000L * (answer == 1 ? upTo : 81 - upTo));
                due("at it", x.weight(0, year), answer == 1 && year <= 80 ? 5000 : 0);
                if (year < 160) due("behind it", x.weight(0, year + 1), answer == 0 && year < 80 ? 5000 : 0);
                if (year > 0) due("ahead of it", x.weight(0, year - 1), answer == 1 && year <= 81 ? 5000 : 0);
                due("another one's", x.all(1), 81 * 5000);
            }
        }
    }

    private void wrongEdges() {
        of("100 less WRONG if it is in the SPAN, else WRONG");
        int[][] want = {{0, 10000, 0}, {1, 9900, 100}, {50, 5000, 5000}, {98, 200, 9800}, {99, 100, 9900}};
        for (int[] w : want) {
            onePaper(ONCE, 2, 1, w[0]);
            due("in it, " + w[0], x.weight(0, 1), w[1]);
            due("out of it, " + w[0], x.weight(0, 0), w[2]);
            due("all, " + w[0], x.all(0), w[1] + 2 * w[2]);
        }
    }

    private void greatestAndLeast() {
        of("WEIGHT: the greatest and the least, longs");
        persons(2);
        for (int i = 0; i < 6; i++) x.paper(0, SPOKEN, 160, 160, 0, 0);
        long most = 100000000000000L;
        due("the greatest", x.weight(0, 0), most);
        due("the last of the span", x.weight(0, 155), most);
        due("behind the span", x.weight(0, 156), 0);
        due("all", x.all(0), 156 * most);
        due("best", x.best(0), 0);
        due("share of 160, above", x.share(0, 160, 0), 1);
        due("share of 160, below", x.share(0, 160, 1), 156);
        due("share of 6, above", x.share(0, 6, 0), 155);
        due("share of 6, below", x.share(0, 6, 1), 156);
        due("share of 5, above", x.share(0, 5, 0), 1);
        due("share of 5, below", x.share(0, 5, 1), 1);
        for (int i = 0; i < 6; i++) x.paper(1, ONCE, 10, 3, 99, 0);
        x.lifeOf(1);
        due("the least", x.weight(1, 3), 1);
        due("beside it", x.weight(1, 2), 941480149401L);
        due("all with the least", x.all(1), 10 * 941480149401L + 1);
        due("best beside it", x.best(1), 0);
        x.question(1, 3, 1);
        x.question(1, 2, 1);
        x.answer(0, true);
        x.answer(1, false);
        due("all is 1", x.all(1), 1);
        due("best of 1", x.best(1), 3);
        due("share of 7, above", x.share(1, 7, 0), 1);
        due("share of 7, below", x.share(1, 7, 1), 1);
        due("share of 8, above", x.share(1, 8, 0), 0);
        due("share of 8, below", x.share(1, 8, 1), 1);
    }

    private void bests() {
        of("BEST: the YEAR with the greatest WEIGHT, of several the least; none, if ALL is 0");
        persons(1);
        due("without papers", x.best(0), 0);
        x.paper(0, ONCE, 160, 160, 0, 0);
        due("160", x.best(0), 160);
        onePaper(ONCE, 160, 0, 0);
        due("0", x.best(0), 0);
        onePaper(COUNT, 100, 40, 10);
        due("of eleven the least", x.best(0), 55);
        x.paper(0, LATE, 100, 66, 10, 0);
        due("of two alike the lesser", x.best(0), 65);
        onePaper(ONCE, 50, 20, 49);
        x.paper(0, ONCE, 50, 30, 49, 0);
        due("of two far ones the lesser", x.best(0), 20);
        x.paper(0, ONCE, 50, 30, 49, 0);
        due("the greater weight", x.best(0), 30);
        onePaper(ONCE, 50, 51, 50);
        due("all alike", x.best(0), 0);
        onePaper(ONCE, 50, 51, 0);
        due("none", x.best(0), NONE);
        due("all of none", x.all(0), 0);
        onePaper(ONCE, 50, 51, 1);
        due("nearly none", x.best(0), 0);
        x.lifeOf(0);
        due("none by life", x.best(0), NONE);
        onePaper(ONCE, 50, 20, 10);
        x.question(0, 160, 1);
        x.answer(0, false);
        due("none by an answer", x.best(0), NONE);
    }

    private void shares() {
        of("SHARE of an age n: YEARS SEEN less n and ahead, in lowest terms (0 by 1, if there are none)");
        onePaper(ONCE, 59, 0, 50);
        int[][] want = {{0, 1, 1}, {1, 59, 60}, {30, 1, 2}, {40, 1, 3}, {58, 1, 30}, {59, 1, 60}, {60, 0, 1},
            {61, 0, 1}, {160, 0, 1}};
        for (int[] w : want) {
            due("above, age " + w[0], x.share(0, w[0], 0), w[1]);
            due("below, age " + w[0], x.share(0, w[0], 1), w[2]);
        }
        onePaper(ONCE, 50, 20, 0);
        due("years of no weight, above", x.share(0, 31, 0), 0);
        due("years of no weight, below", x.share(0, 31, 1), 1);
        due("the year itself", x.share(0, 30, 0), 1);
        due("the year itself, below", x.share(0, 30, 1), 1);
        of("NONE: ALL is 0");
        onePaper(ONCE, 50, 51, 0);
        due("above", x.share(0, 0, 0), NONE);
        due("below", x.share(0, 0, 1), NONE);
        due("too old, above", x.share(0, 160, 0), NONE);
        due("bad ahead of none", x.share(0, 161, 0), BAD);
        due("bad what ahead of none", x.share(0, 0, 2), BAD);
    }

    // ---- term 2

    private void livesAndRests() {
        commons();
        mayBeOne();
        cuts();
        cutsOfSix();
        fortyRests();
        standing();
        rounds();
        roots();
    }

    private void commons() {
        of("YEARS that are in all SPANS of all their PAPERS");
        persons(4);
        due("without papers", x.common(0, 1), 161);
        due("one told twice, without", x.common(3, 3), 161);
        x.paper(0, ONCE, 160, 160, 10, 0);
        due("160", x.common(0, 1), 1);
        due("one told twice", x.common(0, 0), 1);
        x.paper(1, ONCE, 160, 0, 10, 0);
        due("0", x.common(1, 2), 1);
        due("none", x.common(0, 1), 0);
        due("none, turned", x.common(1, 0), 0);
        x.paper(2, GAIN, 160, 0, 10, 0);
        due("all years of a span", x.common(2, 3), 161);
        x.paper(3, ONCE, 0, 1, 10, 0);
        due("an empty span", x.common(3, 3), 0);
        due("an empty span with all", x.common(2, 3), 0);
    }

    private void mayBeOne() {
        of("one SEX and one NAME or one HOUSE, and a YEAR that is COMMON to both (none: they can't)");
        int[][] others = {{1, 2, 0}, {1, 3, 0}, {4, 2, 0}, {4, 3, 0}, {1, 2, 1}, {1, 3, 1}, {4, 2, 1}};
        int[] want = {1, 1, 1, 0, 0, 0, 0};
        x.person(1, 2, 0);
        for (int[] p : others) x.person(p[0], p[1], p[2]);
        for (int p = 0; p < others.length; p++) {
            due("with " + (p + 1), x.one(0, p + 1), want[p]);
            due("turned, with " + (p + 1), x.one(p + 1, 0), want[p]);
        }
        due("itself", x.one(0, 0), BAD);
        due("the last and itself", x.one(7, 7), BAD);
        int[][] years = {{20, 22, 1}, {20, 23, 0}, {0, 2, 1}, {0, 3, 0}, {160, 158, 1}, {160, 157, 0}};
        for (int[] y : years) {
            onePaper(LATE, 160, y[0], 10);
            persons(1);
            x.paper(1, LATE, 160, y[1], 10, 0);
            due("one year or none, " + y[0] + " " + y[1], x.one(0, 1), y[2]);
        }
    }

    private void cuts() {
        of("the least number k (0 .. one less than all)");
        persons(6);
        due("without papers", x.cut(0), NONE);
        x.paper(0, ONCE, 50, 50, 0, 0);
        due("one paper", x.cut(0), 0);
        x.paper(1, ONCE, 50, 51, 0, 0);
        due("one paper, an empty span", x.cut(1), NONE);
        x.paper(0, ONCE, 51, 51, 0, 0);
        due("two of two lives", x.cut(0), 1);
        x.paper(2, LATE, 60, 10, 0, 0);
        x.paper(2, LATE, 61, 12, 0, 0);
        due("two of one year", x.cut(2), 0);
        x.paper(2, LATE, 62, 14, 0, 0);
        due("the least of several", x.cut(2), 1);
        x.paper(3, ONCE, 0, 0, 0, 0);
        x.paper(3, ONCE, 160, 160, 0, 0);
        due("first and last year", x.cut(3), 1);
        x.paper(3, ONCE, 80, 80, 0, 0);
        due("three lives", x.cut(3), NONE);
        x.paper(4, ONCE, 50, 10, 0, 0);
        x.paper(4, ONCE, 50, 20, 0, 0);
        x.paper(4, ONCE, 50, 20, 0, 0);
        due("of like ones by numbers", x.cut(4), 1);
        x.paper(5, ONCE, 50, 20, 0, 0);
        x.paper(5, ONCE, 50, 20, 0, 0);
        x.paper(5, ONCE, 50, 10, 0, 0);
        due("of like ones by numbers, two ahead", x.cut(5), 2);
        x.paper(5, ONCE, 49, 10, 0, 0);
        due("by MADE ahead of numbers", x.cut(5), NONE);
    }

    private void cutsOfSix() {
        of("some YEAR is in the SPANS of all but the first k of these, and (k above 0) some in those of the first k");
        for (int k = 0; k <= 6; k++) {
            fresh();
            persons(1);
            for (int i = 5; i >= 0; i--) x.paper(0, ONCE, 20 + 10 * i, i < k ? 7 : 9, 0, 0);
            due("the first " + k + " of six", x.cut(0), k % 6);
        }
        for (int empty = 0; empty < 6; empty++) {
            fresh();
            persons(1);
            for (int i = 0; i < 6; i++) x.paper(0, ONCE, 20 + 10 * i, i == empty ? 90 : 7, 0, 0);
            due("an empty span at " + empty, x.cut(0), NONE);
        }
    }

    private void fortyRests() {
        of("40 told at most");
        persons(2);
        x.paper(0, ONCE, 1, 1, 1, 0);
        for (int i = 1; i < 9; i++) x.paper(i / 6, COPY, 1, 1, 1, i - 1);
        due("copies are not told", x.many(3), 0);
        int told = 0;
        for (int a = 0; a < 8; a++) {
            for (int b = 0; b < 9 && told < 40; b++) if (a != b) due("rest", x.rest(a, b), ++told);
        }
        due("forty", x.many(3), 40);
        due("forty-one", x.rest(8, 0), FULL);
        due("forty-one, what it is a copy of", x.rest(8, 7), FULL);
        due("still forty", x.many(3), 40);
        due("told, ahead of full", x.rest(0, 1), STATE);
        due("itself, ahead of full", x.rest(0, 0), BAD);
        due("no such paper, ahead of full", x.rest(0, 9), BAD);
        of("STATE: it is told");
        persons(1);
        for (int i = 0; i < 3; i++) x.paper(0, i == 2 ? COPY : ONCE, 1, 1, 1, 0);
        due("what a copy is of isn't told", x.rest(2, 0), 1);
        due("now it is", x.rest(2, 0), STATE);
        due("the other way isn't", x.rest(0, 2), 2);
        due("one and itself", x.rest(1, 1), BAD);
    }

    private void thirtyInAll() {
        fresh();
        persons(5);
        for (int i = 0; i < 30; i++) x.paper(i / 6, ONCE, 1, 1, 1, 0);
    }

    private void standing() {
        of("It STANDS if it rests on none, or on one at least that STANDS");
        due("none", x.stands(), 0);
        thirtyInAll();
        due("thirty", x.stands(), 0x3fffffff);
        x.rest(29, 28);
        x.rest(28, 29);
        due("all but the last two", x.stands(), 0x0fffffff);
        x.rest(0, 29);
        due("nor what rests on these alone", x.stands(), 0x0ffffffe);
        x.rest(0, 1);
        due("on one at least", x.stands(), 0x0fffffff);
        x.rest(29, 0);
        due("by one that rests on it, too", x.stands(), 0x3fffffff);
        thirtyInAll();
        for (int i = 0; i < 29; i++) x.rest(i, i + 1);
        due("a chain of thirty", x.stands(), 0x3fffffff);
        x.rest(29, 0);
        due("a round of thirty", x.stands(), 0);
        of("(COPIES on what they are of, too)");
        persons(1);
        x.paper(0, ONCE, 1, 1, 1, 0);
        x.paper(0, COPY, 1, 1, 1, 0);
        due("it stands", x.stands(), 3);
        x.rest(0, 1);
        due("a round by the copy", x.stands(), 0);
    }

    private void rounds() {
        of("A ROUND: a PAPER that RESTS on itself (over others)");
        thirtyInAll();
        due("on none", x.round(0), 0);
        for (int i = 0; i < 29; i++) x.rest(i, i + 1);
        for (int i = 0; i < 30; i++) due("in a chain", x.round(i), 0);
        x.rest(29, 1);
        due("ahead of a round", x.round(0), 0);
        for (int i = 1; i < 30; i++) due("in a round of 29", x.round(i), 1);
        due("behind all", x.round(30), BAD);
        thirtyInAll();
        x.rest(29, 0);
        x.rest(0, 29);
        due("a round of two", x.round(29), 1);
        due("a round of two, the other", x.round(0), 1);
        due("none of it", x.round(1), 0);
        fresh();
        persons(1);
        x.paper(0, ONCE, 1, 1, 1, 0);
        x.paper(0, COPY, 1, 1, 1, 0);
        x.rest(0, 1);
        due("by a copy", x.round(0), 1);
        due("the copy", x.round(1), 1);
    }

    private void roots() {
        of("ROOTS of a PAPER: those on which it RESTS (over others), and itself, that rest on none");
        thirtyInAll();
        for (int i = 0; i < 30; i++) due("itself", x.roots(i), 1 << i);
        for (int i = 0; i < 29; i++) x.rest(i, i + 1);
        for (int i = 0; i < 30; i++) due("the end of a chain", x.roots(i), 1 << 29);
        x.rest(29, 0);
        for (int i = 0; i < 30; i++) due("in a round none", x.roots(i), 0);
        thirtyInAll();
        for (int i = 1; i < 30; i++) x.rest(0, i);
        due("all others", x.roots(0), 0x3ffffffe);
        due("no such", x.roots(30), BAD);
        fresh();
        persons(1);
        x.paper(0, ONCE, 1, 1, 1, 0);
        x.paper(0, COPY, 1, 1, 1, 0);
        x.paper(0, COPY, 1, 1, 1, 1);
        due("of a copy's copy", x.roots(2), 1);
    }
}
