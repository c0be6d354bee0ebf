import java.util.ArrayList;
import java.util.Arrays;
import java.util.List;
import java.util.function.Consumer;
import java.util.function.ToLongFunction;

/**
 * Each number of each call, in an empty, a middling and a full object: the last that is taken and the
 * first that is refused on each side. And a refused call changes nothing: all that can be asked of an
 * object is asked of one with that call and of one without it.
 */
public final class RefusalTests {
    private static final int BAD = -1, FULL = -2, NONE = -3, STATE = -4, NOT_TOLD = -9;
    private static final int NOTHING_THERE = -11, OUTSIDE = -12, OTHER_SORT = -13, BELOW_0 = -14;
    private static final int ONCE = 1, LATE = 2, COUNT = 3, PASSED = 4, COPY = 5, GAIN = 6, SPOKEN = 7;
    private static final int MIN = Integer.MIN_VALUE, MAX = Integer.MAX_VALUE;

    private static final Checks CHECKS = new Checks();

    private interface Call {
        long on(Counted x, int[] with);
    }

    private interface Question {
        void on(Counted x, List<Long> told);
    }

    /** From where to where a number is taken, and what refuses one below and one above. */
    private static final class Bound {
        final int least;
        final int greatest;
        final int below;
        final int above;

        Bound(int least, int greatest, int below, int above) {
            this.least = least;
            this.greatest = greatest;
            this.below = below;
            this.above = above;
        }
    }

    private static Bound bad(int least, int greatest) {
        return new Bound(least, greatest, BAD, BAD);
    }

    private static Bound or(int refusal, int least, int greatest) {
        return new Bound(least, greatest, refusal, refusal);
    }

    /** What an object is made to be, and how many things it has then. */
    private static final class Opening {
        final String name;
        final Consumer<Counted> calls;
        final List<List<Long>> told = new ArrayList<>();
        int persons = 0;
        int papers = 0;
        int questions = 0;
        int rows = 0;
        int suspects = 0;
        int bodies = 0;
        int[] sizes = {0, 0, 0, 0};

        /** Calls that only look change nothing either, whether they are refused or not. */
        private boolean onlyLooks = false;

        Opening(String name, Consumer<Counted> calls) {
            this.name = name;
            this.calls = calls;
            for (Question question : ALL_THAT_CAN_BE_ASKED) {
                Counted x = opened();
                List<Long> answers = new ArrayList<>();
                question.on(x, answers);
                told.add(answers);
            }
        }

        Counted opened() {
            Counted x = new Counted();
            calls.accept(x);
            return x;
        }

        void look(String call, Call asked, int[] with, Bound... bounds) {
            onlyLooks = true;
            ask(call, asked, with, bounds);
            onlyLooks = false;
        }

        void ask(String call, Call asked, int[] with, Bound... bounds) {
            for (int i = 0; i < bounds.length; i++) {
                Bound b = bounds[i];
                refuse(call, asked, with, i, MIN, b.below);
                refuse(call, asked, with, i, b.least - 1, b.below);
                refuse(call, asked, with, i, b.greatest + 1, b.above);
                refuse(call, asked, with, i, MAX, b.above);
                if (!isAnyTaken(bounds)) continue;
                take(call, asked, with, i, b.least, b.below);
                take(call, asked, with, i, b.greatest, b.above);
            }
        }

        private boolean isAnyTaken(Bound[] bounds) {
            for (Bound b : bounds) if (b.least > b.greatest) return false;
            return true;
        }

        private void refuse(String call, Call asked, int[] with, int i, int v, int refusal) {
            int[] numbers = with.clone();
            numbers[i] = v;
            refuse(call + Arrays.toString(numbers), x -> asked.on(x, numbers), refusal);
        }

        void refuse(String call, ToLongFunction<Counted> asked, int refusal) {
            CHECKS.due(name + ": " + call, asked.applyAsLong(opened()), refusal);
            changesNothing(call, asked);
        }

        void changesNothing(String call, ToLongFunction<Counted> asked) {
            for (int i = 0; i < told.size(); i++) {
                Counted x = opened();
                asked.applyAsLong(x);
                List<Long> answers = new ArrayList<>();
                ALL_THAT_CAN_BE_ASKED.get(i).on(x, answers);
                if (!answers.equals(told.get(i))) {
                    CHECKS.isTrue(name + ": " + call + " changes nothing, asked by question " + i, false);
                }
            }
        }

        private void take(String call, Call asked, int[] with, int i, int v, int refusal) {
            int[] numbers = with.clone();
            numbers[i] = v;
            long answer = asked.on(opened(), numbers);
            CHECKS.isTrue(name + ": " + call + Arrays.toString(numbers) + " is taken", answer != refusal);
            if (onlyLooks) changesNothing(call + Arrays.toString(numbers), x -> asked.on(x, numbers));
        }
    }

    private static final List<Question> ALL_THAT_CAN_BE_ASKED = List.of(
        RefusalTests::tellNumbers, RefusalTests::tellJudgements, RefusalTests::tellWeights,
        RefusalTests::tellSheets, RefusalTests::tellRows, RefusalTests::tellThings,
        RefusalTests::tellTape, RefusalTests::tellRests, RefusalTests::tellAnswers,
        (x, told) -> tellKept(x, told, RefusalTests::tellNumbers),
        (x, told) -> tellKept(x, told, RefusalTests::tellJudgements),
        (x, told) -> tellKept(x, told, RefusalTests::tellWeights),
        (x, told) -> tellKept(x, told, RefusalTests::tellRests),
        (x, told) -> tellKept(x, told, RefusalTests::tellAnswers));

    public static void main(String[] args) {
        Opening empty = new Opening("empty", x -> { });
        Opening some = new Opening("some", RefusalTests::openSome);
        some.persons = 3;
        some.papers = 9;
        some.questions = 3;
        some.rows = 7;
        some.suspects = 2;
        some.bodies = 4;
        some.sizes = new int[] {5, 17, 3, 0};
        Opening full = new Opening("full", RefusalTests::openFull);
        full.persons = 10;
        full.papers = 30;
        full.questions = 8;
        full.rows = 7;
        full.suspects = 10;
        full.bodies = 8;
        full.sizes = new int[] {40, 40, 40, 40};
        for (Opening o : List.of(empty, some, full)) {
            papersAndLives(o);
            wayDrawsAndQuestions(o);
            host(o);
            o.changesNothing("stands", x -> x.stands());
            o.changesNothing("judge", x -> x.judge());
        }
        areAsTold(some, 3, 9, 2, 4, 2, 3, 1, 7, 0, 4);
        areAsTold(full, 10, 30, 6, 40, 20, 8, 2, 7, 200, 8);
        ofEmpty(empty);
        ofSome(some);
        ofFull(full);
        actsOfNothing();
        partedActs();
        CHECKS.end("RefusalTests");
    }

    private static void areAsTold(Opening o, int... many) {
        Counted x = o.opened();
        for (int what = 0; what < 10; what++) CHECKS.due(o.name + " has, " + what, x.many(what), many[what]);
    }

    // ---- all that can be asked

    private static void tellKept(Counted x, List<Long> told, Question question) {
        told.add((long) x.again());
        question.on(x, told);
    }

    private static void tellNumbers(Counted x, List<Long> told) {
        for (int what = 0; what < 10; what++) told.add((long) x.many(what));
        for (int p = 0; p < 10; p++) {
            for (int what = 0; what < 6; what++) told.add((long) x.personOf(p, what));
        }
        for (int p = 0; p < 30; p++) {
            for (int what = 0; what < 6; what++) told.add((long) x.paperOf(p, what));
        }
    }

    private static void tellJudgements(Counted x, List<Long> told) {
        for (int p = 0; p < 10; p++) {
            told.add(x.all(p));
            for (int n : new int[] {x.best(p), x.cut(p), x.behind(p), x.next(p), x.clause(p), x.suspect(p)}) {
                told.add((long) n);
            }
            told.add((long) x.common(p, 0));
            told.add((long) x.one(p, 0));
        }
        for (int p = 0; p < 30; p++) {
            told.add((long) x.round(p));
            told.add((long) x.roots(p));
        }
        for (int what = 0; what < 4; what++) told.add((long) x.heap(what));
        for (int house = 0; house < 6; house++) told.add((long) x.valley(house, 50, house % 3));
        for (int age = 20; age <= 80; age += 30) {
            told.add((long) x.errs(age, 0));
            told.add((long) x.errs(age, 1));
        }
        told.add((long) x.stands());
    }

    private static void tellWeights(Counted x, List<Long> told) {
        for (int p = 0; p < 10; p++) {
            for (int year = 0; year <= 160; year += 10) told.add(x.weight(p, year));
            told.add(x.share(p, 50, 0));
            told.add(x.share(p, 50, 1));
        }
    }

    private static void tellSheets(Counted x, List<Long> told) {
        for (int sheet = 0; sheet < 4; sheet++) {
            for (int sort = 0; sort < 4; sort++) told.add((long) x.item(sheet, sort, 0));
            for (int i = 0; i <= 40; i++) told.add((long) x.item(sheet, sheet, i));
        }
    }

    private static void tellRows(Counted x, List<Long> told) {
        for (int i = 0; i <= 7; i++) {
            for (int what = 0; what < 2; what++) told.add((long) x.row(i, what));
        }
        told.add((long) x.judge());
        for (int i = 0; i <= 30; i++) told.add((long) x.trace(i));
    }

    private static void tellThings(Counted x, List<Long> told) {
        for (int shelf = 0; shelf < 4; shelf++) {
            for (int as = 0; as <= 13; as++) told.add((long) x.taken(shelf, as));
            for (int act = 0; act < 4; act++) {
                told.add((long) x.act(shelf, act, 1234567));
                told.add((long) x.many(9));
                told.add((long) x.trace(0));
            }
        }
    }

    private static void tellTape(Counted x, List<Long> told) {
        told.add((long) x.feed(';', 1));
        told.add((long) x.read());
        told.add((long) x.many(2));
        for (int p = 0; p < 10; p++) {
            told.add((long) x.clause(p));
            told.add((long) x.takes(p));
        }
    }

    private static void tellRests(Counted x, List<Long> told) {
        for (int a = 0; a < 13; a++) {
            for (int b = 0; b < 13; b++) told.add((long) x.rest(a, b));
        }
    }

    private static void tellAnswers(Counted x, List<Long> told) {
        for (int question = 0; question <= 8; question++) told.add((long) x.answer(question, true));
        for (int p = 0; p < 10; p++) {
            told.add(x.all(p));
            told.add((long) x.best(p));
        }
    }

    // ---- what the objects are made to be

    // Nothing is kept, the tape is empty; person 0 has six papers, person 2 no best year, sheet 3 is missing.
    private static void openSome(Counted x) {
        x.person(2, 3, 1);
        x.person(2, 4, 1);
        x.person(5, 9, 0);
        int[][] papers = {{0, ONCE, 50, 10, 10}, {0, COPY, 60, 12, 20}, {0, COUNT, 55, 40, 40},
            {0, LATE, 61, 11, 30}, {0, PASSED, 62, 50, 25}, {0, SPOKEN, 63, 17, 35}, {1, COUNT, 90, 45, 10},
            {1, GAIN, 95, 30, 20}, {2, ONCE, 40, 50, 0}};
        for (int[] p : papers) x.paper(p[0], p[1], p[2], p[3], p[4], 0);
        int[][] rests = {{2, 0}, {3, 2}, {0, 3}, {6, 7}};
        for (int[] r : rests) x.rest(r[0], r[1]);
        x.readText("turn share 50>90;take papers=6 or seen>89;");
        x.truth(0, 10);
        x.truth(1, 40);
        x.draw(0, 50, 90, 10);
        x.draw(1, 95, 99, 5);
        x.question(0, 11, 5);
        x.question(0, 9, 7);
        x.question(1, 45, 3);
        x.answer(1, false);
        x.prove(0);
        x.alterRow(3, 1, 7);
        x.sheet(0, 0, 5);
        for (int i = 0; i < 5; i++) x.put(0, i, 60 - i);
        x.putShorts(1, 90, 91, 92, 93, 94, 95, 96, 97, 98, 99, 100, 1, 2, 3, 4, 5, 6);
        x.life(1);
        for (int i = 0; i < 16; i++) x.put(1, i, 50 - i);
        x.put(1, 16, 101);
        x.sheet(2, 2, 3);
        x.put(2, 1, MIN);
        x.shelf(0, 0, 5);
        x.shelf(1, 1, 1);
        x.shelf(2, 2, 2);
        x.act(0, 0, 5);
    }

    // All there may be of everything; something smaller is kept.
    private static void openFull(Counted x) {
        for (int p = 0; p < 9; p++) x.person(p % 6, p, p % 2);
        for (int i = 0; i < 29; i++) x.paper(i / 6, 1 + i % 7, 60 + i, 20 + i, 10 + i, 0);
        for (int a = 0; a < 4; a++) for (int b = 1; b <= 5; b++) x.rest(a, a + b);
        for (int i = 0; i < 8; i++) x.question(i % 4, 20 + i, 10 + i);
        x.answer(2, true);
        x.readText("take seen>80;");
        x.truth(1, 20);
        x.draw(3, 1, 160, 5);
        x.keep();
        x.person(1, 9, 1);
        x.paper(4, COUNT, 99, 55, 12, 0);
        for (int a = 4; a < 8; a++) for (int b = 1; b <= 5; b++) x.rest(a, a + b);
        for (int i = 1; i < 20; i++) x.draw(i % 10, 100, 130, i);
        x.answer(3, false);
        x.truth(2, 30);
        x.readText("turn age<9;take age<20;turn age<30;take papers<1;turn wrong>3;take stands>0;");
        x.prove(0);
        x.putShorts(1, 90, 91, 92, 93, 94, 95, 96, 97, 98, 99, 100, 1, 2, 3, 4, 5, 6);
        x.life(1);
        for (int sheet = 0; sheet < 4; sheet++) {
            x.sheet(sheet, sheet, 40);
            for (int i = 0; i < 40; i += 13) x.put(sheet, i, 70 + i);
        }
        x.shelf(0, 0, 5);
        x.shelf(1, 1, 4);
        x.shelf(2, 2, 0);
        x.act(0, 3, 5);
        x.feedText("turn house=3;take 1=1;" + " ".repeat(178));
    }

    // ---- numbers, call by call

    private static void papersAndLives(Opening o) {
        Bound person = bad(0, o.persons - 1);
        Bound paper = bad(0, o.papers - 1);
        Bound year = bad(0, 160);
        o.ask("person", (x, w) -> x.person(w[0], w[1], w[2]), new int[] {0, 0, 0}, bad(0, 5), bad(0, 9), bad(0, 1));
        o.look("personOf", (x, w) -> x.personOf(w[0], w[1]), new int[] {0, 0}, person, bad(0, 5));
        o.ask("paper", (x, w) -> x.paper(w[0], w[1], w[2], w[3], w[4], 0), new int[] {1, 1, 50, 40, 10},
            person, bad(1, 7), year, year, bad(0, 99));
        o.ask("paper, a copy", (x, w) -> x.paper(1, COPY, 50, 40, 10, w[0]), new int[] {0}, paper);
        o.look("paperOf", (x, w) -> x.paperOf(w[0], w[1]), new int[] {0, 0}, paper, bad(0, 5));
        o.ask("correct", (x, w) -> x.correct(w[0], w[1]), new int[] {0, 41}, paper, year);
        o.look("span", (x, w) -> x.span(w[0], w[1]), new int[] {0, 40}, paper, year);
        o.ask("life", (x, w) -> x.life(w[0]), new int[] {0}, bad(0, 3));
        o.look("weight", (x, w) -> x.weight(w[0], w[1]), new int[] {0, 40}, person, year);
        o.look("all", (x, w) -> x.all(w[0]), new int[] {0}, person);
        o.look("best", (x, w) -> x.best(w[0]), new int[] {0}, person);
        o.look("share", (x, w) -> x.share(w[0], w[1], w[2]), new int[] {0, 40, 0}, person, year, bad(0, 1));
        o.look("common", (x, w) -> x.common(w[0], w[1]), new int[] {0, 0}, person, person);
        o.look("one: a", (x, w) -> x.one(w[0], 1), new int[] {0}, person);
        o.look("one: b", (x, w) -> x.one(1, w[0]), new int[] {0}, person);
        o.look("cut", (x, w) -> x.cut(w[0]), new int[] {0}, person);
        o.ask("rest: a", (x, w) -> x.rest(w[0], 1), new int[] {0}, paper);
        o.ask("rest: b", (x, w) -> x.rest(1, w[0]), new int[] {0}, paper);
        o.look("round", (x, w) -> x.round(w[0]), new int[] {0}, paper);
        o.look("roots", (x, w) -> x.roots(w[0]), new int[] {0}, paper);
    }

    private static void wayDrawsAndQuestions(Opening o) {
        Bound person = bad(0, o.persons - 1);
        Bound year = bad(0, 160);
        o.ask("feed", (x, w) -> x.feed(-1, w[0]), new int[] {1}, bad(1, 8));
        o.look("takes", (x, w) -> x.takes(w[0]), new int[] {0}, person);
        o.look("clause", (x, w) -> x.clause(w[0]), new int[] {0}, person);
        o.ask("truth", (x, w) -> x.truth(w[0], w[1]), new int[] {0, 40}, person, bad(-1, 160));
        o.look("errs", (x, w) -> x.errs(w[0], w[1]), new int[] {40, 0}, year, bad(0, 1));
        o.ask("draw", (x, w) -> x.draw(w[0], w[1], w[2], w[3]), new int[] {0, 0, 160, 1},
            person, year, year, bad(1, 99));
        o.ask("draw: from up to to", (x, w) -> x.draw(0, w[0], 70, 1), new int[] {0},
            o.persons > 0 ? bad(0, 70) : bad(0, -1));
        o.ask("draw: to down to from", (x, w) -> x.draw(0, 70, w[0], 1), new int[] {70},
            o.persons > 0 ? bad(70, 160) : bad(0, -1));
        o.look("behind", (x, w) -> x.behind(w[0]), new int[] {0}, person);
        o.look("suspect", (x, w) -> x.suspect(w[0]), new int[] {0}, or(NONE, 0, o.suspects - 1));
        o.look("heap", (x, w) -> x.heap(w[0]), new int[] {0}, bad(0, 3));
        o.look("valley", (x, w) -> x.valley(w[0], w[1], w[2]), new int[] {0, 40, 0}, bad(0, 5), year, bad(0, 2));
        o.ask("question", (x, w) -> x.question(w[0], w[1], w[2]), new int[] {0, 40, 5}, person, year, bad(1, 99));
        o.ask("answer", (x, w) -> x.answer(w[0], true), new int[] {0}, bad(0, o.questions - 1));
        o.ask("answer no", (x, w) -> x.answer(w[0], false), new int[] {0}, bad(0, o.questions - 1));
        o.look("next", (x, w) -> x.next(w[0]), new int[] {0}, person);
        o.ask("prove", (x, w) -> x.prove(w[0]), new int[] {0}, person);
        Bound row = or(NOT_TOLD, 0, o.rows - 1);
        o.look("row", (x, w) -> x.row(w[0], w[1]), new int[] {0, 0}, row, or(NOT_TOLD, 0, 1));
        o.ask("alterRow", (x, w) -> x.alterRow(w[0], w[1], 77), new int[] {0, 0}, row, or(NOT_TOLD, 0, 1));
    }

    private static void host(Opening o) {
        Bound four = bad(0, 3);
        Bound person = bad(0, o.persons - 1);
        o.ask("sheet", (x, w) -> x.sheet(w[0], w[1], w[2]), new int[] {0, 2, 5},
            four, bad(-1, 3), new Bound(0, 40, BELOW_0, BAD));
        o.ask("put", (x, w) -> x.put(w[0], 0, 77), new int[] {0}, four);
        o.look("item", (x, w) -> x.item(w[0], w[1], 0), new int[] {0, 0}, four, four);
        o.ask("register", (x, w) -> x.register(w[0], w[1], 0, w[2]), new int[] {1, 0, 1}, person, four, bad(0, 10));
        for (int sheet = 0; sheet < 4; sheet++) {
            if (o.sizes[sheet] == 0) continue;
            int n = sheet;
            Bound place = or(OUTSIDE, 0, o.sizes[sheet] - 1);
            o.ask("put in sheet " + n, (x, w) -> x.put(n, w[0], 77), new int[] {0}, place);
            o.look("item of sheet " + n, (x, w) -> x.item(n, n, w[0]), new int[] {0}, place);
        }
        if (o.sizes[0] > 0) {
            o.ask("register from", (x, w) -> x.register(1, 0, w[0], 1), new int[] {0}, or(OUTSIDE, 0, o.sizes[0] - 2));
        }
        o.ask("shelf", (x, w) -> x.shelf(w[0], w[1], 0), new int[] {0, 3}, four, o.papers > 0 ? four : bad(2, 3));
        o.ask("shelf: paper", (x, w) -> x.shelf(3, 0, w[0]), new int[] {0}, bad(0, o.papers - 1));
        o.ask("shelf: person", (x, w) -> x.shelf(3, 1, w[0]), new int[] {0}, person);
        o.ask("shelf: sheet", (x, w) -> x.shelf(3, 2, w[0]), new int[] {0}, four);
        o.ask("shelf: nothing", (x, w) -> x.shelf(w[0], 3, MIN), new int[] {0}, four);
        for (int shelf = 0; shelf < 4; shelf++) {
            int n = shelf;
            o.look("taken as a thing", (x, w) -> x.taken(n, w[0]), new int[] {0}, bad(0, 8));
            o.look("taken as a row", (x, w) -> x.taken(n, w[0]), new int[] {10}, bad(10, 13));
        }
        o.look("taken", (x, w) -> x.taken(w[0], 0), new int[] {0}, four);
        o.look("trace", (x, w) -> x.trace(w[0]), new int[] {0}, or(NONE, 0, o.bodies - 1));
        o.look("many", (x, w) -> x.many(w[0]), new int[] {0}, bad(0, 9));
    }

    // ---- what each of the three refuses besides

    private static void ofEmpty(Opening o) {
        o.refuse("again, nothing is kept", x -> x.again(), NONE);
        for (int n = 0; n < 4; n++) {
            int sheet = n;
            o.refuse("life of a missing sheet", x -> x.life(sheet), NOTHING_THERE);
            o.refuse("put in a missing sheet", x -> x.put(sheet, 0, 1), NOTHING_THERE);
            o.refuse("put outside of a missing sheet", x -> x.put(sheet, -1, 1), NOTHING_THERE);
            for (int s = 0; s < 4; s++) {
                int sort = s;
                o.refuse("item of a missing sheet", x -> x.item(sheet, sort, 0), NOTHING_THERE);
                o.refuse("item outside of a missing sheet", x -> x.item(sheet, sort, 40), NOTHING_THERE);
                o.refuse("a size below 0", x -> x.sheet(sheet, sort, -1), BELOW_0);
            }
            for (int a = 0; a <= 13; a++) {
                int as = a;
                if (as != 9) o.refuse("nothing taken as " + as, x -> x.taken(sheet, as), NOTHING_THERE);
            }
        }
        faults(o);
    }

    private static void faults(Opening o) {
        String[] texts = {"x", "take", "take 1=1", "take 1=1;;", "take 1=2;turn 1=1; take", "take ((((1=1))));",
            "turn 1=2;take share 1000=0;", "turn 1=1;".repeat(7), "take (1=1;", "\u0000", " ".repeat(199) + "x"};
        int[] places = {0, 4, 8, 9, 23, 8, 20, 54, 9, 0, 199};
        for (int i = 0; i < texts.length; i++) {
            String text = texts[i];
            o.refuse("read of <" + text + ">", x -> x.readText(text), -100 - places[i]);
        }
    }

    private static void ofSome(Opening o) {
        for (int k = 1; k <= 7; k++) {
            int kind = k;
            o.refuse("the seventh of one", x -> x.paper(0, kind, 50, 40, 10, 0), FULL);
        }
        o.refuse("best of none", x -> x.best(2), NONE);
        o.refuse("share of none", x -> x.share(2, 0, 0), NONE);
        o.refuse("share of none, below", x -> x.share(2, 160, 1), NONE);
        o.refuse("proof of none", x -> x.prove(2), NONE);
        o.refuse("no cut", x -> x.cut(2), NONE);
        o.refuse("no clause", x -> x.clause(2), NONE);
        o.refuse("no question", x -> x.next(2), NONE);
        o.refuse("nothing kept", x -> x.again(), NONE);
        o.refuse("one and itself", x -> x.one(1, 1), BAD);
        o.refuse("a paper on itself", x -> x.rest(1, 1), BAD);
        o.refuse("rests already", x -> x.rest(2, 0), STATE);
        o.refuse("answered already", x -> x.answer(1, true), STATE);
        o.refuse("answered already, the same", x -> x.answer(1, false), STATE);
        o.refuse("life, the last number is above", x -> x.life(1), STATE);
        o.refuse("life from bytes", x -> x.life(0), OTHER_SORT);
        o.refuse("life from ints", x -> x.life(2), OTHER_SORT);
        o.refuse("life from nothing", x -> x.life(3), NOTHING_THERE);
        o.refuse("put in nothing", x -> x.put(3, 0, 1), NOTHING_THERE);
        o.refuse("a register from nothing", x -> x.register(1, 3, 0, 1), NOTHING_THERE);
        o.refuse("a register from shorts", x -> x.register(1, 1, 0, 1), OTHER_SORT);
        o.refuse("a register from ints", x -> x.register(1, 2, 9, 1), OTHER_SORT);
        o.refuse("half a pair", x -> x.register(1, 0, 4, 1), OUTSIDE);
        o.refuse("sheet 41", x -> x.sheet(3, 3, 41), BAD);
        o.refuse("sheet below 0", x -> x.sheet(0, 0, -1), BELOW_0);
        for (int s = 0; s < 3; s++) {
            int sheet = s;
            o.refuse("another sort", x -> x.item(sheet, 3, 0), OTHER_SORT);
            o.refuse("another sort, outside", x -> x.item(sheet, 3, -1), OTHER_SORT);
        }
        for (int as : new int[] {1, 3, 4, 6, 8, 10, 11, 12, 13}) o.refuse("spoken", x -> x.taken(0, as), OTHER_SORT);
        for (int as : new int[] {0, 7, 10, 12}) o.refuse("a person", x -> x.taken(1, as), OTHER_SORT);
        for (int as : new int[] {0, 8, 10, 11, 13}) o.refuse("ints", x -> x.taken(2, as), OTHER_SORT);
        faults(o);
    }

    private static void ofFull(Opening o) {
        o.refuse("the eleventh person", x -> x.person(5, 9, 1), FULL);
        for (int p = 0; p < 10; p++) {
            int person = p;
            o.refuse("the thirty-first paper", x -> x.paper(person, COUNT, 50, 40, 10, 0), FULL);
            o.refuse("the thirty-first paper, a copy", x -> x.paper(person, COPY, 50, 40, 10, 3), FULL);
            o.refuse("the twenty-first draw", x -> x.draw(person, 0, 160, 99), FULL);
            o.refuse("the ninth question", x -> x.question(person, 40, 5), FULL);
        }
        o.refuse("the forty-first rest", x -> x.rest(20, 21), FULL);
        o.refuse("the forty-first rest, the other way", x -> x.rest(1, 0), FULL);
        o.refuse("told, when full", x -> x.rest(7, 12), STATE);
        o.refuse("itself, when full", x -> x.rest(20, 20), BAD);
        for (int n = 1; n <= 8; n++) {
            int bytes = n;
            o.refuse("more than 200 bytes", x -> x.feed(-1, bytes), FULL);
        }
        o.refuse("answered yes", x -> x.answer(2, false), STATE);
        o.refuse("answered no", x -> x.answer(3, true), STATE);
        o.refuse("from behind to, when full", x -> x.draw(0, 51, 50, 1), BAD);
    }

    // An act of nothing leaves no TRACE, so it is looked at where there is none.
    private static void actsOfNothing() {
        int[][] none = {{-1, 0}, {4, 0}, {MIN, 1}, {MAX, 2}, {0, -1}, {0, 4}, {1, MIN}, {1, MAX}, {2, 0}, {2, 3},
            {3, 0}, {3, 3}};
        Opening o = new Opening("some, without a trace", x -> {
            openSome(x);
            CHECKS.due("an act of nothing", x.act(3, 0, 5), 0);
        });
        areAsTold(o, 3, 9, 2, 4, 2, 3, 1, 7, 0, 0);
        for (int[] n : none) o.refuse("act " + Arrays.toString(n), x -> x.act(n[0], n[1], 5), 0);
    }

    // One that is parted by 0 changes THE TRACE alone, so it is looked at where the same bodies ran.
    private static void partedActs() {
        Opening o = new Opening("some, with a paper that tells its own number", x -> {
            openSome(x);
            x.correct(0, 0);
            x.shelf(2, 0, 0);
            x.shelf(3, 0, 8);
            CHECKS.due("an act of the same bodies", x.act(3, 2, 84), 2);
        });
        areAsTold(o, 3, 9, 2, 4, 2, 3, 1, 7, 0, 1);
        for (int n : new int[] {0, 1, -1, MIN, MAX}) o.refuse("fits with " + n, x -> x.act(2, 2, n), -15);
    }
}
