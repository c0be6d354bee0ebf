/**
 * An ElderPapers whose calls are counted: what it answers after 512 of them is free, so no test may
 * ask for more of one object.
 */
final class Counted {
    static final int MOST = 512;

    private final ElderPapers papers = new ElderPapers();
    private int calls = 0;

    int calls() {
        return calls;
    }

    private ElderPapers counted() {
        calls++;
        if (calls > MOST) throw new IllegalStateException("a test makes more than " + MOST + " calls on one object");
        return papers;
    }

    int person(int house, int name, int sex) { return counted().person(house, name, sex); }

    int personOf(int person, int what) { return counted().personOf(person, what); }

    int paper(int person, int kind, int made, int tells, int wrong, int of) {
        return counted().paper(person, kind, made, tells, wrong, of);
    }

    int paperOf(int paper, int what) { return counted().paperOf(paper, what); }

    int correct(int paper, int v) { return counted().correct(paper, v); }

    int span(int paper, int year) { return counted().span(paper, year); }

    int life(int sheet) { return counted().life(sheet); }

    long weight(int person, int year) { return counted().weight(person, year); }

    long all(int person) { return counted().all(person); }

    int best(int person) { return counted().best(person); }

    long share(int person, int age, int what) { return counted().share(person, age, what); }

    int common(int a, int b) { return counted().common(a, b); }

    int one(int a, int b) { return counted().one(a, b); }

    int cut(int person) { return counted().cut(person); }

    int rest(int a, int b) { return counted().rest(a, b); }

    int stands() { return counted().stands(); }

    int round(int paper) { return counted().round(paper); }

    int roots(int paper) { return counted().roots(paper); }

    int feed(long eight, int n) { return counted().feed(eight, n); }

    int read() { return counted().read(); }

    int takes(int person) { return counted().takes(person); }

    int clause(int person) { return counted().clause(person); }

    int truth(int person, int year) { return counted().truth(person, year); }

    int errs(int age, int what) { return counted().errs(age, what); }

    int draw(int person, int from, int to, int pence) { return counted().draw(person, from, to, pence); }

    int behind(int person) { return counted().behind(person); }

    int suspect(int i) { return counted().suspect(i); }

    int heap(int what) { return counted().heap(what); }

    int valley(int house, int age, int what) { return counted().valley(house, age, what); }

    int question(int person, int year, int cost) { return counted().question(person, year, cost); }

    int answer(int question, boolean yes) { return counted().answer(question, yes); }

    int next(int person) { return counted().next(person); }

    int prove(int person) { return counted().prove(person); }

    int row(int i, int what) { return counted().row(i, what); }

    int alterRow(int i, int what, int v) { return counted().alterRow(i, what, v); }

    int judge() { return counted().judge(); }

    int sheet(int sheet, int sort, int n) { return counted().sheet(sheet, sort, n); }

    int put(int sheet, int i, int v) { return counted().put(sheet, i, v); }

    int item(int sheet, int sort, int i) { return counted().item(sheet, sort, i); }

    int register(int person, int sheet, int i, int n) { return counted().register(person, sheet, i, n); }

    int shelf(int shelf, int what, int n) { return counted().shelf(shelf, what, n); }

    int taken(int shelf, int as) { return counted().taken(shelf, as); }

    int act(int shelf, int act, int x) { return counted().act(shelf, act, x); }

    int trace(int i) { return counted().trace(i); }

    int many(int what) { return counted().many(what); }

    int keep() { return counted().keep(); }

    int again() { return counted().again(); }

    /** The bytes of a text (signs 0 to 255) come to THE TAPE, eight a call: how many it has. */
    int feedText(String text) {
        int has = 0;
        for (int i = 0; i < text.length(); i += 8) {
            int n = Math.min(8, text.length() - i);
            long eight = 0;
            for (int k = 0; k < n; k++) eight |= (long) text.charAt(i + k) << (8 * k);
            has = feed(eight, n);
        }
        return has;
    }

    int readText(String text) {
        feedText(text);
        return read();
    }

    /** A SHEET becomes a row of shorts with these numbers. */
    void putShorts(int sheet, int... numbers) {
        sheet(sheet, 1, numbers.length);
        for (int i = 0; i < numbers.length; i++) put(sheet, i, numbers[i]);
    }

    /** LIFE becomes 17 times a number, by SHEET 3. */
    int lifeOf(int number) {
        int[] numbers = new int[17];
        java.util.Arrays.fill(numbers, number);
        putShorts(3, numbers);
        return life(3);
    }
}
