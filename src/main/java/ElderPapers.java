import java.util.Arrays;

/**
 * Persons who are said to be very old, the papers that tell of their births, and what can be judged
 * from them. As in the document, "ahead" is earlier and "behind" is later.
 *
 * <p>Every row of numbers is made in a constructor and used again: no call makes an object.
 */
public final class ElderPapers {
    public static final int BAD = -1, FULL = -2, NONE = -3, STATE = -4;

    private static final int NOT_TOLD = -9;
    private static final int NOTHING_THERE = -11, OUTSIDE = -12, OTHER_SORT = -13;
    private static final int SIZE_BELOW_0 = -14, PARTED_BY_0 = -15;
    private static final int TOO_FEW_ROWS = 20, NO_ROWS = 30;

    private static final int LAST_YEAR = 160, YEARS = 161;
    private static final int MOST_PERSONS = 10, MOST_PAPERS = 30, MOST_OF_ONE = 6, MOST_RESTS = 40;
    private static final int MOST_CLAUSES = 6, MOST_BYTES = 200, MOST_OPEN = 3;
    private static final int MOST_DRAWS = 20, MOST_QUESTIONS = 8, MOST_TRACED = 30;
    private static final int LIFE_ROWS = 17, SHEETS = 4, SHELVES = 4, MOST_ITEMS = 40;
    private static final int REGISTER_WRONG = 10, MOST_REGISTER = 10;

    // Kinds of papers are kinds of things too; a thing of kind 0 is never made, only asked for.
    private static final int ONCE = 1, LATE = 2, COUNT = 3, PASSED = 4, COPY = 5, GAIN = 6, SPOKEN = 7;
    private static final int PERSON_KIND = 8;
    private static final int[] KIND_ABOVE = {NONE, 0, 0, 0, ONCE, LATE, COUNT, COPY, NONE};

    // Columns of the tables; the first ones stand in the order in which personOf and paperOf ask.
    private static final int HOUSE = 0, NAME = 1, SEX = 2, TRUTH = 3;
    private static final int OWNER = 0, KIND = 1, MADE = 2, TELLS = 3, WRONG = 4, OF = 5, RESTS = 6;
    private static final int FROM = 1, TO = 2, PENCE = 3;
    private static final int YEAR = 1, COST = 2, ANSWER = 3;
    private static final int IS_TAKE = 0, FIRST_STEP = 1, END_STEP = 2;
    private static final int STEP = 0, LEFT = 1, RIGHT = 2;
    private static final int WHAT = 0, NUMBER = 1, SORT = 2, SIZE = 3;

    private static final int OPEN_YET = 0, YES = 1, NO = 2;
    private static final int HOLDS_PAPER = 0, HOLDS_PERSON = 1, HOLDS_ROW = 2, HOLDS_NOTHING = 3;
    private static final int MISSING = -1, BYTES = 0, SHORTS = 1, LONGS = 3;

    // Tokens of the way. Values come first, so that one comparison tells them; of what joins,
    // the tighter has the greater number.
    private static final int THE_END = 0, A_NUMBER = 1, PAPERS = 2, STANDS = 3, AGE = 4, SEEN = 5;
    private static final int THE_HOUSE = 6, MISSED = 7, SHARE = 8, TAKE = 9, TURN = 10, OR = 11;
    private static final int AND = 12, NOT = 13, OPEN = 14, CLOSE = 15, LESS = 16, SAME = 17;
    private static final int MORE = 18, STOP = 19, UNKNOWN = 20;
    // A value with its number is one int: token times this, and the number (999 at most).
    private static final int VALUE_BASE = 1000;

    private final Book book = new Book();
    private final Book kept = new Book();
    private boolean hasKept = false;
    private final Odds odds = new Odds();
    private final Judge judge = new Judge();
    private final WayReader reader = new WayReader();
    private final Pile tape = new Pile(MOST_BYTES);
    private final Table rows = new Table(2, MOST_OF_ONE + 1);
    private final Sheet[] sheets = {new Sheet(), new Sheet(), new Sheet(), new Sheet()};
    private final Table shelves = new Table(4, SHELVES);
    private final Thing thing = new Thing();

    public ElderPapers() {
        for (int i = 0; i < SHELVES; i++) {
            shelves.set(shelves.add(), WHAT, HOLDS_NOTHING);
        }
    }

    // ---- persons, papers

    public int person(int house, int name, int sex) {
        if (!isHouse(house) || !isWithin(name, 0, 9) || !isWithin(sex, 0, 1)) return BAD;
        if (book.persons.isFull()) return FULL;
        int person = book.persons.add();
        book.persons.set(person, HOUSE, house);
        book.persons.set(person, NAME, name);
        book.persons.set(person, SEX, sex);
        book.persons.set(person, TRUTH, -1);
        return person;
    }

    public int personOf(int person, int what) {
        if (!book.persons.has(person)) return BAD;
        switch (what) {
            case 0: return book.persons.get(person, HOUSE);
            case 1: return book.persons.get(person, NAME);
            case 2: return book.persons.get(person, SEX);
            case 3: return book.seen(person);
            case 4: return book.papersOf(person);
            case 5: return book.isTruthTold(person) ? book.persons.get(person, TRUTH) : NOT_TOLD;
            default: return BAD;
        }
    }

    public int paper(int person, int kind, int made, int tells, int wrong, int of) {
        if (!book.persons.has(person) || !isWithin(kind, ONCE, SPOKEN) || !isYear(made)) return BAD;
        if (!isYear(tells) || !isWithin(wrong, 0, 99)) return BAD;
        if (kind == COPY && !book.papers.has(of)) return BAD;
        if (book.papers.isFull() || book.papersOf(person) >= MOST_OF_ONE) return FULL;
        int paper = book.papers.add();
        book.papers.set(paper, OWNER, person);
        book.papers.set(paper, KIND, kind);
        book.papers.set(paper, MADE, made);
        book.papers.set(paper, TELLS, tells);
        book.papers.set(paper, WRONG, wrong);
        book.papers.set(paper, OF, kind == COPY ? of : NOT_TOLD);
        return paper;
    }

    public int paperOf(int paper, int what) {
        if (!book.papers.has(paper) || !isWithin(what, OWNER, OF)) return BAD;
        return book.papers.get(paper, what);
    }

    public int correct(int paper, int v) {
        if (!book.papers.has(paper) || !isYear(v)) return BAD;
        int was = book.papers.get(paper, TELLS);
        book.papers.set(paper, TELLS, v);
        return was;
    }

    public int span(int paper, int year) {
        if (!book.papers.has(paper) || !isYear(year)) return BAD;
        return book.isInSpan(paper, year) ? 1 : 0;
    }

    public int life(int sheet) {
        if (!isSheet(sheet)) return BAD;
        int refusal = sheets[sheet].refusalAs(SHORTS);
        if (refusal != 0) return refusal;
        if (!isLifeTable(sheets[sheet])) return STATE;
        for (int i = 0; i < LIFE_ROWS; i++) {
            book.life.set(i, 0, sheets[sheet].get(i));
        }
        return 1;
    }

    private static boolean isLifeTable(Sheet sheet) {
        if (sheet.size != LIFE_ROWS) return false;
        for (int i = 0; i < LIFE_ROWS; i++) {
            if (!isWithin(sheet.get(i), 0, 100)) return false;
        }
        return true;
    }

    public long weight(int person, int year) {
        if (!book.persons.has(person) || !isYear(year)) return BAD;
        odds.weigh(book, person);
        return odds.of(year);
    }

    public long all(int person) {
        if (!book.persons.has(person)) return BAD;
        odds.weigh(book, person);
        return odds.total;
    }

    public int best(int person) {
        if (!book.persons.has(person)) return BAD;
        odds.weigh(book, person);
        return odds.bestYear;
    }

    public long share(int person, int age, int what) {
        if (!book.persons.has(person) || !isYear(age) || !isWithin(what, 0, 1)) return BAD;
        odds.weigh(book, person);
        if (odds.total <= 0) return NONE;
        long part = odds.ofAge(age);
        // Never 0: one of both is above 0. With no part it is the total itself, which makes 0 by 1.
        long divisor = Math.max(1, greatestCommonDivisor(part, odds.total));
        return (what == 0 ? part : odds.total) / divisor;
    }

    private static long greatestCommonDivisor(long a, long b) {
        long greater = a;
        long less = b;
        for (int i = 0; i < 200 && less != 0; i++) {
            long rest = greater % less;
            greater = less;
            less = rest;
        }
        return greater;
    }

    // ---- two lives, papers on papers

    public int common(int a, int b) {
        if (!book.persons.has(a) || !book.persons.has(b)) return BAD;
        int years = 0;
        for (int year = 0; year <= LAST_YEAR; year++) {
            if (book.isInSpans(a, year) && book.isInSpans(b, year)) years++;
        }
        return years;
    }

    public int one(int a, int b) {
        if (a == b || !book.persons.has(a) || !book.persons.has(b)) return BAD;
        boolean oneSex = book.persons.get(a, SEX) == book.persons.get(b, SEX);
        boolean oneName = book.persons.get(a, NAME) == book.persons.get(b, NAME);
        boolean oneHouse = book.persons.get(a, HOUSE) == book.persons.get(b, HOUSE);
        return oneSex && (oneName || oneHouse) && common(a, b) > 0 ? 1 : 0;
    }

    public int cut(int person) {
        if (!book.persons.has(person)) return BAD;
        int papers = book.papersOf(person);
        for (int k = 0; k < papers; k++) {
            boolean earlierAgree = k == 0 || book.spansMeet(person, 0, k);
            if (earlierAgree && book.spansMeet(person, k, papers)) return k;
        }
        return NONE;
    }

    public int rest(int a, int b) {
        if (a == b || !book.papers.has(a) || !book.papers.has(b)) return BAD;
        int told = book.papers.get(a, RESTS);
        if ((told & bit(b)) != 0) return STATE;
        if (book.restsTold >= MOST_RESTS) return FULL;
        book.papers.set(a, RESTS, told | bit(b));
        book.restsTold++;
        return book.restsTold;
    }

    public int stands() {
        return book.standing();
    }

    public int round(int paper) {
        if (!book.papers.has(paper)) return BAD;
        return (book.restsOver(paper) & bit(paper)) != 0 ? 1 : 0;
    }

    public int roots(int paper) {
        if (!book.papers.has(paper)) return BAD;
        return (book.restsOver(paper) | bit(paper)) & book.restingOnNone();
    }

    // ---- the way

    public int feed(long eight, int n) {
        if (!isWithin(n, 1, 8)) return BAD;
        if (tape.count + n > MOST_BYTES) return FULL;
        for (int i = 0; i < n; i++) {
            tape.push((int) (eight >> (8 * i)) & 255);
        }
        return tape.count;
    }

    public int read() {
        int fault = reader.readTape(tape);
        tape.clear();
        if (fault != NONE) return -100 - fault;
        book.clauses.become(reader.clauses);
        book.steps.become(reader.steps);
        return book.clauses.count;
    }

    public int takes(int person) {
        if (!book.persons.has(person)) return BAD;
        return judge.isTaken(book, odds, person) ? 1 : 0;
    }

    public int clause(int person) {
        if (!book.persons.has(person)) return BAD;
        return judge.clauseFor(book, odds, person);
    }

    public int truth(int person, int year) {
        if (!book.persons.has(person) || !isWithin(year, -1, LAST_YEAR)) return BAD;
        book.persons.set(person, TRUTH, year);
        return 1;
    }

    public int errs(int age, int what) {
        if (!isYear(age) || !isWithin(what, 0, 1)) return BAD;
        int errs = 0;
        for (int person = 0; person < book.persons.count; person++) {
            if (!book.isTruthTold(person)) continue;
            boolean isBelow = book.seen(person) - book.persons.get(person, TRUTH) < age;
            boolean isTaken = judge.isTaken(book, odds, person);
            if (what == 0 ? isTaken && isBelow : !isTaken && !isBelow) errs++;
        }
        return errs;
    }

    // ---- draws, heaps, valleys

    public int draw(int person, int from, int to, int pence) {
        if (!book.persons.has(person) || !isYear(from) || !isYear(to) || from > to) return BAD;
        if (!isWithin(pence, 1, 99)) return BAD;
        if (book.draws.isFull()) return FULL;
        int draw = book.draws.add();
        book.draws.set(draw, OWNER, person);
        book.draws.set(draw, FROM, from);
        book.draws.set(draw, TO, to);
        book.draws.set(draw, PENCE, pence);
        return draw;
    }

    public int behind(int person) {
        if (!book.persons.has(person)) return BAD;
        return book.paidBehindSeen(person);
    }

    public int suspect(int i) {
        if (i < 0 || i >= MOST_PERSONS) return NONE;
        for (int person = 0; person < book.persons.count; person++) {
            if (book.paidBehindSeen(person) > 0 && suspectsAheadOf(person) == i) return person;
        }
        return NONE;
    }

    private int suspectsAheadOf(int person) {
        int paid = book.paidBehindSeen(person);
        int ahead = 0;
        for (int other = 0; other < book.persons.count; other++) {
            int otherPaid = book.paidBehindSeen(other);
            if (otherPaid > paid || otherPaid == paid && other < person) ahead++;
        }
        return ahead;
    }

    public int heap(int what) {
        int tens = book.countsWithEnding(0);
        int fives = book.countsWithEnding(5);
        int counts = book.counts();
        switch (what) {
            case 0: return tens;
            case 1: return fives;
            case 2: return counts - tens - fives;
            case 3: return counts <= 0 ? 0 : 500 * (tens + fives) / counts;
            default: return BAD;
        }
    }

    public int valley(int house, int age, int what) {
        if (!isHouse(house) || !isYear(age) || !isWithin(what, 0, 2)) return BAD;
        int old = 0;
        for (int person = 0; person < book.persons.count; person++) {
            if (book.persons.get(person, HOUSE) == house && isOld(person, age, what)) old++;
        }
        return old;
    }

    private boolean isOld(int person, int age, int what) {
        odds.weigh(book, person);
        // Who has no weights has neither a share nor an age: no bound counts it.
        if (odds.total <= 0) return false;
        if (what == 0) return odds.ofAge(age) == odds.total;
        if (what == 1) return odds.bestAge() >= age;
        return odds.ofAge(age) > 0;
    }

    // ---- questions, rows

    public int question(int person, int year, int cost) {
        if (!book.persons.has(person) || !isYear(year) || !isWithin(cost, 1, 99)) return BAD;
        if (book.questions.isFull()) return FULL;
        int question = book.questions.add();
        book.questions.set(question, OWNER, person);
        book.questions.set(question, YEAR, year);
        book.questions.set(question, COST, cost);
        book.questions.set(question, ANSWER, OPEN_YET);
        return question;
    }

    public int answer(int question, boolean yes) {
        if (!book.questions.has(question)) return BAD;
        if (book.questions.get(question, ANSWER) != OPEN_YET) return STATE;
        book.questions.set(question, ANSWER, yes ? YES : NO);
        return book.answered();
    }

    public int next(int person) {
        if (!book.persons.has(person)) return BAD;
        odds.weigh(book, person);
        int found = NONE;
        long least = 0;
        for (int question = 0; question < book.questions.count; question++) {
            if (book.questions.get(question, OWNER) != person) continue;
            if (book.questions.get(question, ANSWER) != OPEN_YET) continue;
            long upTo = odds.upTo(book.questions.get(question, YEAR));
            long dearest = book.questions.get(question, COST) * Math.max(upTo, odds.total - upTo);
            if (found == NONE || dearest < least) {
                found = question;
                least = dearest;
            }
        }
        return found;
    }

    public int prove(int person) {
        if (!book.persons.has(person)) return BAD;
        odds.weigh(book, person);
        if (odds.bestYear == NONE) return NONE;
        rows.clear();
        addRow(person, odds.bestYear);
        for (int paper = 0; paper < book.papers.count; paper++) {
            if (!book.isOf(paper, person)) continue;
            addRow(paper, book.isInSpan(paper, odds.bestYear) ? 1 : 0);
        }
        return rows.count;
    }

    private void addRow(int first, int second) {
        int row = rows.add();
        rows.set(row, 0, first);
        rows.set(row, 1, second);
    }

    public int row(int i, int what) {
        if (!rows.has(i) || !isWithin(what, 0, 1)) return NOT_TOLD;
        return rows.get(i, what);
    }

    public int alterRow(int i, int what, int v) {
        if (!rows.has(i) || !isWithin(what, 0, 1)) return NOT_TOLD;
        int was = rows.get(i, what);
        rows.set(i, what, v);
        return was;
    }

    public int judge() {
        if (rows.count == 0) return NO_ROWS;
        int person = rows.get(0, 0);
        int year = rows.get(0, 1);
        if (!book.persons.has(person)) return 1;
        odds.weigh(book, person);
        if (odds.bestYear == NONE || odds.bestYear != year) return 1;
        int paper = NONE;
        for (int i = 1; i < rows.count; i++) {
            paper = book.nextPaperOf(person, paper);
            if (paper == NONE || rows.get(i, 0) != paper) return i + 1;
            if (rows.get(i, 1) != (book.isInSpan(paper, year) ? 1 : 0)) return i + 1;
        }
        return book.nextPaperOf(person, paper) == NONE ? 0 : TOO_FEW_ROWS;
    }

    // ---- the host

    public int sheet(int sheet, int sort, int n) {
        if (!isSheet(sheet) || !isWithin(sort, MISSING, LONGS)) return BAD;
        if (sort == MISSING) {
            sheets[sheet].become(MISSING, 0);
            return 1;
        }
        if (n > MOST_ITEMS) return BAD;
        if (n < 0) return SIZE_BELOW_0;
        sheets[sheet].become(sort, n);
        return 1;
    }

    public int put(int sheet, int i, int v) {
        if (!isSheet(sheet)) return BAD;
        if (sheets[sheet].sort == MISSING) return NOTHING_THERE;
        if (!sheets[sheet].has(i)) return OUTSIDE;
        sheets[sheet].set(i, v);
        return 1;
    }

    public int item(int sheet, int sort, int i) {
        if (!isSheet(sheet) || !isSort(sort)) return BAD;
        int refusal = sheets[sheet].refusalAs(sort);
        if (refusal != 0) return refusal;
        if (!sheets[sheet].has(i)) return OUTSIDE;
        return sheets[sheet].get(i);
    }

    public int register(int person, int sheet, int i, int n) {
        if (!isSheet(sheet) || !book.persons.has(person) || !isWithin(n, 0, MOST_REGISTER)) return BAD;
        Sheet from = sheets[sheet];
        int refusal = from.refusalAs(BYTES);
        if (refusal != 0) return refusal;
        int came = 0;
        int at = i;
        for (int k = 0; k < n; k++) {
            if (!from.has(at) || !from.has(at + 1)) return OUTSIDE;
            if (paper(person, COUNT, from.get(at), from.get(at + 1), REGISTER_WRONG, 0) >= 0) came++;
            at += 2;
        }
        return came;
    }

    public int shelf(int shelf, int what, int n) {
        if (!shelves.has(shelf)) return BAD;
        switch (what) {
            case HOLDS_PAPER: return book.papers.has(n) ? shelve(shelf, what, n) : BAD;
            case HOLDS_PERSON: return book.persons.has(n) ? shelve(shelf, what, n) : BAD;
            case HOLDS_ROW: return isSheet(n) ? shelveRow(shelf, n) : BAD;
            case HOLDS_NOTHING: return shelve(shelf, what, 0);
            default: return BAD;
        }
    }

    private int shelve(int shelf, int what, int n) {
        shelves.set(shelf, WHAT, what);
        shelves.set(shelf, NUMBER, n);
        return 1;
    }

    // The row itself goes on the shelf: a sheet that becomes another row later leaves it there.
    private int shelveRow(int shelf, int sheet) {
        if (!isSheet(sheet)) return BAD;
        boolean isMissing = sheets[sheet].sort == MISSING;
        shelves.set(shelf, SORT, sheets[sheet].sort);
        shelves.set(shelf, SIZE, sheets[sheet].size);
        return shelve(shelf, isMissing ? HOLDS_NOTHING : HOLDS_ROW, sheet);
    }

    public int taken(int shelf, int as) {
        boolean asRow = isSort(as - 10);
        if (!shelves.has(shelf) || !asRow && !isWithin(as, 0, PERSON_KIND)) return BAD;
        int held = heldOn(shelf);
        if (held == HOLDS_NOTHING) return NOTHING_THERE;
        if (asRow != (held == HOLDS_ROW)) return OTHER_SORT;
        if (asRow) {
            return shelves.get(shelf, SORT) == as - 10 ? shelves.get(shelf, SIZE) : OTHER_SORT;
        }
        return isUnder(kindOn(shelf), as) ? shelves.get(shelf, NUMBER) : OTHER_SORT;
    }

    public int act(int shelf, int act, int x) {
        thing.trace.clear();
        int held = heldOn(shelf);
        if (held == HOLDS_NOTHING || held == HOLDS_ROW) return 0;
        thing.kind = kindOn(shelf);
        thing.n = shelves.get(shelf, NUMBER);
        thing.a = held == HOLDS_PERSON ? book.seen(thing.n) : book.papers.get(thing.n, TELLS);
        return thing.perform(act, x);
    }

    // A paper or person is looked up by its number only when it is asked for: again() may have
    // undone it since it was put there.
    private int heldOn(int shelf) {
        if (!shelves.has(shelf)) return HOLDS_NOTHING;
        int what = shelves.get(shelf, WHAT);
        int n = shelves.get(shelf, NUMBER);
        if (what == HOLDS_PAPER && !book.papers.has(n)) return HOLDS_NOTHING;
        if (what == HOLDS_PERSON && !book.persons.has(n)) return HOLDS_NOTHING;
        return what;
    }

    private int kindOn(int shelf) {
        if (shelves.get(shelf, WHAT) == HOLDS_PERSON) return PERSON_KIND;
        return book.papers.get(shelves.get(shelf, NUMBER), KIND);
    }

    public int trace(int i) {
        return thing.trace.has(i) ? thing.trace.get(i) : NONE;
    }

    public int many(int what) {
        switch (what) {
            case 0: return book.persons.count;
            case 1: return book.papers.count;
            case 2: return book.clauses.count;
            case 3: return book.restsTold;
            case 4: return book.draws.count;
            case 5: return book.questions.count;
            case 6: return book.answered();
            case 7: return rows.count;
            case 8: return tape.count;
            case 9: return thing.trace.count;
            default: return BAD;
        }
    }

    // ---- kept

    public int keep() {
        kept.become(book);
        hasKept = true;
        return 1;
    }

    public int again() {
        if (!hasKept) return NONE;
        book.become(kept);
        return 1;
    }

    private static boolean isWithin(int n, int least, int greatest) {
        return n >= least && n <= greatest;
    }

    private static boolean isYear(int year) {
        return isWithin(year, 0, LAST_YEAR);
    }

    private static boolean isHouse(int house) {
        return isWithin(house, 0, 5);
    }

    private static boolean isSheet(int sheet) {
        return isWithin(sheet, 0, SHEETS - 1);
    }

    private static boolean isSort(int sort) {
        return isWithin(sort, BYTES, LONGS);
    }

    private static int bit(int paper) {
        return 1 << paper;
    }

    private static boolean isUnder(int kind, int as) {
        int above = kind;
        for (int i = 0; i < KIND_ABOVE.length && above >= 0 && above < KIND_ABOVE.length; i++) {
            if (above == as) return true;
            above = KIND_ABOVE[above];
        }
        return false;
    }

    /** Rows of numbers, some at most. A place that is not there reads as 0 and is never written. */
    private static final class Table {
        private final int width;
        private final int most;
        private final int[] cells;
        int count = 0;

        Table(int width, int most) {
            this.width = Math.max(0, width);
            this.most = Math.max(0, most);
            this.cells = new int[this.width * this.most];
        }

        boolean has(int row) {
            return row >= 0 && row < count;
        }

        boolean isFull() {
            return count >= most;
        }

        /** The number of a new row, all 0; NONE if the table is full. */
        int add() {
            if (count < 0 || count >= most) return NONE;
            int row = count;
            count++;
            // A row that was here ahead of clear() has left its numbers.
            for (int place = row * width; place < count * width && place < cells.length; place++) {
                cells[place] = 0;
            }
            return row;
        }

        int get(int row, int column) {
            if (row < 0 || row >= count || column < 0 || column >= width) return 0;
            int place = row * width + column;
            return place < cells.length ? cells[place] : 0;
        }

        void set(int row, int column, int v) {
            if (row < 0 || row >= count || column < 0 || column >= width) return;
            int place = row * width + column;
            if (place < cells.length) cells[place] = v;
        }

        void clear() {
            count = 0;
        }

        void become(Table other) {
            System.arraycopy(other.cells, 0, cells, 0, Math.min(cells.length, other.cells.length));
            count = Math.min(other.count, most);
        }
    }

    /** Numbers one upon another; what comes when it is full is lost. */
    private static final class Pile {
        private final int[] numbers;
        int count = 0;

        Pile(int most) {
            this.numbers = new int[Math.max(0, most)];
        }

        void clear() {
            count = 0;
        }

        void push(int n) {
            if (count < 0 || count >= numbers.length) return;
            numbers[count] = n;
            count++;
        }

        boolean has(int i) {
            return i >= 0 && i < count;
        }

        int get(int i) {
            return i >= 0 && i < count && i < numbers.length ? numbers[i] : 0;
        }

        int top() {
            return count > 0 && count <= numbers.length ? numbers[count - 1] : 0;
        }

        int pop() {
            if (count <= 0 || count > numbers.length) return 0;
            count--;
            return numbers[count];
        }
    }

    /** All that is kept: persons, papers, what is told of them, and the way. */
    private static final class Book {
        final Table persons = new Table(4, MOST_PERSONS);
        final Table papers = new Table(7, MOST_PAPERS);
        final Table life = new Table(1, LIFE_ROWS);
        final Table draws = new Table(4, MOST_DRAWS);
        final Table questions = new Table(4, MOST_QUESTIONS);
        final Table clauses = new Table(3, MOST_CLAUSES);
        final Table steps = new Table(3, MOST_BYTES);
        int restsTold = 0;

        Book() {
            for (int i = 0; i < LIFE_ROWS; i++) {
                life.set(life.add(), 0, 100);
            }
        }

        void become(Book other) {
            persons.become(other.persons);
            papers.become(other.papers);
            life.become(other.life);
            draws.become(other.draws);
            questions.become(other.questions);
            clauses.become(other.clauses);
            steps.become(other.steps);
            restsTold = other.restsTold;
        }

        boolean isTruthTold(int person) {
            return persons.get(person, TRUTH) >= 0;
        }

        boolean isOf(int paper, int person) {
            return papers.has(paper) && papers.get(paper, OWNER) == person;
        }

        int papersOf(int person) {
            return Integer.bitCount(paperBitsOf(person));
        }

        int paperBitsOf(int person) {
            int bits = 0;
            for (int paper = 0; paper < papers.count; paper++) {
                if (isOf(paper, person)) bits |= bit(paper);
            }
            return bits;
        }

        /** The next paper of a person by numbers behind one (NONE: the first); NONE without. */
        int nextPaperOf(int person, int paper) {
            int first = paper == NONE ? 0 : paper + 1;
            for (int next = Math.max(0, first); next < papers.count; next++) {
                if (isOf(next, person)) return next;
            }
            return NONE;
        }

        int seen(int person) {
            int latest = 0;
            for (int paper = 0; paper < papers.count; paper++) {
                if (!isOf(paper, person) || papers.get(paper, KIND) == GAIN) continue;
                latest = Math.max(latest, papers.get(paper, MADE));
            }
            return latest;
        }

        boolean isInSpan(int paper, int year) {
            int made = papers.get(paper, MADE);
            int tells = papers.get(paper, TELLS);
            if (year > made) return false;
            switch (papers.get(paper, KIND)) {
                case ONCE: return year == tells;
                case LATE: return isNear(year, tells, 1);
                case COUNT: return isNear(year, made - tells, leewayOf(tells));
                case PASSED: return year == made - tells || year == made - tells - 1;
                case COPY: return placesApart(year, tells) <= 1;
                case GAIN: return year <= made - tells;
                case SPOKEN: return year <= tells - 5;
                default: return false;
            }
        }

        private static boolean isNear(int year, int middle, int leeway) {
            return year >= middle - leeway && year <= middle + leeway;
        }

        private static int leewayOf(int age) {
            if (age % 10 == 0) return 5;
            return age % 10 == 5 ? 2 : 1;
        }

        private static int placesApart(int a, int b) {
            int apart = a % 10 != b % 10 ? 1 : 0;
            if (a / 10 % 10 != b / 10 % 10) apart++;
            if (a / 100 != b / 100) apart++;
            return apart;
        }

        boolean isInSpans(int person, int year) {
            for (int paper = 0; paper < papers.count; paper++) {
                if (isOf(paper, person) && !isInSpan(paper, year)) return false;
            }
            return true;
        }

        /** Whether some year is in the spans of a person's papers from one place up to another one, by MADE. */
        boolean spansMeet(int person, int from, int to) {
            int bits = 0;
            for (int paper = 0; paper < papers.count; paper++) {
                if (!isOf(paper, person)) continue;
                int place = placeByMade(paper, person);
                if (place >= from && place < to) bits |= bit(paper);
            }
            for (int year = 0; year <= LAST_YEAR; year++) {
                if (areAllInSpan(bits, year)) return true;
            }
            return false;
        }

        private int placeByMade(int paper, int person) {
            int made = papers.get(paper, MADE);
            int place = 0;
            for (int other = 0; other < papers.count; other++) {
                if (!isOf(other, person)) continue;
                int otherMade = papers.get(other, MADE);
                if (otherMade < made || otherMade == made && other < paper) place++;
            }
            return place;
        }

        private boolean areAllInSpan(int bits, int year) {
            for (int paper = 0; paper < papers.count; paper++) {
                if ((bits & bit(paper)) != 0 && !isInSpan(paper, year)) return false;
            }
            return true;
        }

        private int restsOn(int paper) {
            int of = papers.get(paper, OF);
            return papers.get(paper, RESTS) | (papers.has(of) ? bit(of) : 0);
        }

        int restingOnNone() {
            int bits = 0;
            for (int paper = 0; paper < papers.count; paper++) {
                if (restsOn(paper) == 0) bits |= bit(paper);
            }
            return bits;
        }

        int standing() {
            int bits = 0;
            // Each pass but the last adds a paper, so there are few more passes than papers.
            for (int pass = 0; pass <= MOST_PAPERS; pass++) {
                int before = bits;
                for (int paper = 0; paper < papers.count; paper++) {
                    int rests = restsOn(paper);
                    if (rests == 0 || (rests & bits) != 0) bits |= bit(paper);
                }
                if (bits == before) break;
            }
            return bits;
        }

        /** Those on which a paper rests, over others too. */
        int restsOver(int paper) {
            int bits = restsOn(paper);
            for (int pass = 0; pass < MOST_PAPERS; pass++) {
                int before = bits;
                for (int other = 0; other < papers.count; other++) {
                    if ((bits & bit(other)) != 0) bits |= restsOn(other);
                }
                if (bits == before) break;
            }
            return bits;
        }

        int paidBehindSeen(int person) {
            int seen = seen(person);
            int paid = 0;
            for (int draw = 0; draw < draws.count; draw++) {
                if (draws.get(draw, OWNER) != person) continue;
                int first = Math.max(draws.get(draw, FROM), seen + 1);
                int years = Math.max(0, draws.get(draw, TO) - first + 1);
                paid += years * draws.get(draw, PENCE);
            }
            return paid;
        }

        int counts() {
            int counts = 0;
            for (int paper = 0; paper < papers.count; paper++) {
                if (papers.get(paper, KIND) == COUNT) counts++;
            }
            return counts;
        }

        int countsWithEnding(int digit) {
            int counts = 0;
            for (int paper = 0; paper < papers.count; paper++) {
                if (papers.get(paper, KIND) != COUNT) continue;
                if (papers.get(paper, TELLS) % 10 == digit) counts++;
            }
            return counts;
        }

        boolean isLeftOut(int person, int year) {
            for (int question = 0; question < questions.count; question++) {
                if (questions.get(question, OWNER) != person) continue;
                int answer = questions.get(question, ANSWER);
                boolean isBehind = year > questions.get(question, YEAR);
                if (answer == YES && isBehind || answer == NO && !isBehind) return true;
            }
            return false;
        }

        int answered() {
            int answered = 0;
            for (int question = 0; question < questions.count; question++) {
                if (questions.get(question, ANSWER) != OPEN_YET) answered++;
            }
            return answered;
        }
    }

    /** The weights of all years for the person that was weighed latest. */
    private static final class Odds {
        private final long[] weights = new long[YEARS];
        int seen = 0;
        long total = 0;
        int bestYear = NONE;

        void weigh(Book book, int person) {
            seen = book.seen(person);
            begin(book, person);
            for (int paper = 0; paper < book.papers.count; paper++) {
                if (book.isOf(paper, person)) take(book, paper);
            }
            sum();
        }

        private void begin(Book book, int person) {
            for (int year = 0; year < weights.length; year++) {
                boolean isOut = year > seen || book.isLeftOut(person, year);
                weights[year] = isOut ? 0 : book.life.get((seen - year) / 10, 0);
            }
        }

        private void take(Book book, int paper) {
            int wrong = book.papers.get(paper, WRONG);
            for (int year = 0; year < weights.length; year++) {
                if (weights[year] == 0) continue;
                weights[year] *= book.isInSpan(paper, year) ? 100 - wrong : wrong;
            }
        }

        private void sum() {
            total = 0;
            bestYear = NONE;
            long greatest = 0;
            for (int year = 0; year < weights.length; year++) {
                total += weights[year];
                if (weights[year] > greatest) {
                    greatest = weights[year];
                    bestYear = year;
                }
            }
        }

        long of(int year) {
            return year >= 0 && year < weights.length ? weights[year] : 0;
        }

        long upTo(int year) {
            long sum = 0;
            for (int i = 0; i <= year && i < weights.length; i++) {
                sum += weights[i];
            }
            return sum;
        }

        /** All weights of years in which one who has that age, or more, was born. */
        long ofAge(int age) {
            return upTo(seen - age);
        }

        int bestAge() {
            return bestYear == NONE ? 0 : seen - bestYear;
        }

        int hundredthsOf(int age) {
            return total <= 0 ? 0 : (int) (upTo(seen - age) * 100 / total);
        }
    }

    /**
     * Reads the way from the tape into clauses and steps. The steps of a condition stand behind what
     * they join, so that they are told one after another without any call within a call.
     */
    private static final class WayReader {
        private static final int AT_CLAUSE = 0, AT_ONE = 1, AT_SHARE = 2, AT_SIGN = 3, AT_RIGHT = 4;
        private static final int BEHIND_ONE = 5;

        final Table clauses = new Table(3, MOST_CLAUSES);
        final Table steps = new Table(3, MOST_BYTES);
        private final Pile waiting = new Pile(MOST_BYTES);
        private Pile tape = null;
        private int first = 0;
        private int behind = 0;
        private int number = 0;
        private int state = AT_CLAUSE;
        private int open = 0;
        private int left = 0;
        private int sign = 0;

        /** The place of the fault, NONE if there is none. */
        int readTape(Pile bytes) {
            tape = bytes;
            clauses.clear();
            steps.clear();
            waiting.clear();
            behind = 0;
            open = 0;
            sign = 0;
            state = AT_CLAUSE;
            // No token is without a byte, so the end comes before this counter does.
            for (int i = 0; i <= MOST_BYTES; i++) {
                int token = nextToken();
                if (token == THE_END) return state == AT_CLAUSE ? NONE : first;
                if (!isAccepted(token)) return first;
            }
            return first;
        }

        private int byteAt(int place) {
            return tape == null ? 0 : tape.get(place);
        }

        private boolean isLetter(int place) {
            return byteAt(place) >= 'a' && byteAt(place) <= 'z';
        }

        private boolean isDigit(int place) {
            return byteAt(place) >= '0' && byteAt(place) <= '9';
        }

        private int nextToken() {
            int length = tape == null ? 0 : tape.count;
            first = behind;
            while (first < length && byteAt(first) == ' ') first++;
            behind = first;
            if (first >= length) return THE_END;
            if (isLetter(first)) {
                while (behind < length && isLetter(behind)) behind++;
                return wordToken();
            }
            if (isDigit(first)) {
                while (behind < length && isDigit(behind)) behind++;
                return numberToken();
            }
            behind++;
            return signToken();
        }

        private int wordToken() {
            if (isWord("papers")) return PAPERS;
            if (isWord("stands")) return STANDS;
            if (isWord("age")) return AGE;
            if (isWord("seen")) return SEEN;
            if (isWord("house")) return THE_HOUSE;
            if (isWord("wrong")) return MISSED;
            if (isWord("share")) return SHARE;
            if (isWord("take")) return TAKE;
            if (isWord("turn")) return TURN;
            if (isWord("or")) return OR;
            if (isWord("and")) return AND;
            if (isWord("not")) return NOT;
            return UNKNOWN;
        }

        private boolean isWord(String word) {
            if (word.length() != behind - first) return false;
            for (int i = 0; i < word.length(); i++) {
                if (word.charAt(i) != byteAt(first + i)) return false;
            }
            return true;
        }

        private int numberToken() {
            if (behind - first > 3) return UNKNOWN;
            number = 0;
            for (int place = first; place < behind; place++) {
                number = number * 10 + byteAt(place) - '0';
            }
            return A_NUMBER;
        }

        private int signToken() {
            switch (byteAt(first)) {
                case '(': return OPEN;
                case ')': return CLOSE;
                case '<': return LESS;
                case '=': return SAME;
                case '>': return MORE;
                case ';': return STOP;
                default: return UNKNOWN;
            }
        }

        private boolean isAccepted(int token) {
            switch (state) {
                case AT_CLAUSE: return isClauseBegun(token);
                case AT_ONE: return isOneOpened(token) || isValueBegun(token);
                case AT_SHARE: return token == A_NUMBER && isValueTold(SHARE);
                case AT_SIGN: return isSignTold(token);
                case AT_RIGHT: return isValueBegun(token);
                default: return isOneFollowed(token);
            }
        }

        private boolean isClauseBegun(int token) {
            if (token != TAKE && token != TURN || clauses.isFull()) return false;
            int clause = clauses.add();
            clauses.set(clause, IS_TAKE, token == TAKE ? 1 : 0);
            clauses.set(clause, FIRST_STEP, steps.count);
            state = AT_ONE;
            return true;
        }

        private boolean isOneOpened(int token) {
            if (token != NOT && token != OPEN) return false;
            if (token == OPEN && open >= MOST_OPEN) return false;
            if (token == OPEN) open++;
            waiting.push(token);
            return true;
        }

        private boolean isValueBegun(int token) {
            if (token < A_NUMBER || token > SHARE) return false;
            if (token != SHARE) return isValueTold(token);
            state = AT_SHARE;
            return true;
        }

        private boolean isValueTold(int token) {
            int value = token * VALUE_BASE + number;
            if (sign == 0) {
                left = value;
                state = AT_SIGN;
                return true;
            }
            addStep(sign, left, value);
            sign = 0;
            state = BEHIND_ONE;
            return true;
        }

        private boolean isSignTold(int token) {
            if (token < LESS || token > MORE) return false;
            sign = token;
            state = AT_RIGHT;
            return true;
        }

        private boolean isOneFollowed(int token) {
            if (token == AND || token == OR) {
                settle(token);
                waiting.push(token);
                state = AT_ONE;
                return true;
            }
            if (token == CLOSE && open > 0) {
                settle(OR);
                waiting.pop();
                open--;
                return true;
            }
            if (token != STOP || open > 0) return false;
            settle(OR);
            clauses.set(clauses.count - 1, END_STEP, steps.count);
            state = AT_CLAUSE;
            return true;
        }

        /** What waits since the last "(" and joins at least as tightly as a token becomes steps. */
        private void settle(int token) {
            for (int i = 0; i < MOST_BYTES; i++) {
                int joint = waiting.top();
                if (joint == OPEN || joint < token) return;
                addStep(waiting.pop(), 0, 0);
            }
        }

        private void addStep(int step, int leftValue, int rightValue) {
            int row = steps.add();
            steps.set(row, STEP, step);
            steps.set(row, LEFT, leftValue);
            steps.set(row, RIGHT, rightValue);
        }
    }

    /** Judges persons by the way that a book holds. */
    private static final class Judge {
        private final Pile truths = new Pile(MOST_BYTES);
        private int papers = 0;
        private int stands = 0;
        private int house = 0;
        private int missed = 0;

        boolean isTaken(Book book, Odds odds, int person) {
            int clause = clauseFor(book, odds, person);
            return clause != NONE && book.clauses.get(clause, IS_TAKE) == 1;
        }

        int clauseFor(Book book, Odds odds, int person) {
            odds.weigh(book, person);
            learn(book, odds, person);
            for (int clause = 0; clause < book.clauses.count; clause++) {
                if (holds(book, odds, clause)) return clause;
            }
            return NONE;
        }

        private void learn(Book book, Odds odds, int person) {
            int bits = book.paperBitsOf(person);
            papers = Integer.bitCount(bits);
            stands = Integer.bitCount(bits & book.standing());
            house = book.persons.get(person, HOUSE);
            missed = 0;
            for (int paper = 0; paper < book.papers.count && odds.bestYear != NONE; paper++) {
                if (book.isOf(paper, person) && !book.isInSpan(paper, odds.bestYear)) missed++;
            }
        }

        private boolean holds(Book book, Odds odds, int clause) {
            truths.clear();
            int end = Math.min(book.clauses.get(clause, END_STEP), book.steps.count);
            for (int step = book.clauses.get(clause, FIRST_STEP); step < end; step++) {
                int what = book.steps.get(step, STEP);
                if (what == NOT || what == AND || what == OR) {
                    join(what);
                } else {
                    int left = valueOf(odds, book.steps.get(step, LEFT));
                    int right = valueOf(odds, book.steps.get(step, RIGHT));
                    truths.push(isSo(what, left, right) ? 1 : 0);
                }
            }
            return truths.top() == 1;
        }

        private void join(int what) {
            int last = truths.pop();
            if (what == NOT) {
                truths.push(1 - last);
                return;
            }
            int one = truths.pop();
            truths.push(what == AND ? one & last : one | last);
        }

        private static boolean isSo(int sign, int left, int right) {
            if (sign == LESS) return left < right;
            return sign == MORE ? left > right : left == right;
        }

        private int valueOf(Odds odds, int value) {
            int number = value % VALUE_BASE;
            switch (value / VALUE_BASE) {
                case A_NUMBER: return number;
                case PAPERS: return papers;
                case STANDS: return stands;
                case AGE: return odds.bestAge();
                case SEEN: return odds.seen;
                case THE_HOUSE: return house;
                case MISSED: return missed;
                case SHARE: return odds.hundredthsOf(number);
                default: return 0;
            }
        }
    }

    /** A row of numbers of one sort, or a missing one. */
    private static final class Sheet {
        private final int[] items = new int[MOST_ITEMS];
        int sort = MISSING;
        int size = 0;

        void become(int newSort, int newSize) {
            sort = newSort;
            size = Math.max(0, Math.min(newSize, items.length));
            Arrays.fill(items, 0);
        }

        /** What the host refuses when this is taken for a row of a sort; 0 if nothing. */
        int refusalAs(int asked) {
            if (sort == MISSING) return NOTHING_THERE;
            return sort == asked ? 0 : OTHER_SORT;
        }

        boolean has(int i) {
            return i >= 0 && i < size;
        }

        int get(int i) {
            return has(i) && i < items.length ? items[i] : 0;
        }

        // Of longs no more than the lowest 32 bits are ever asked: an int holds them.
        void set(int i, int v) {
            if (!has(i) || i >= items.length) return;
            if (sort == BYTES) {
                items[i] = (byte) v;
            } else {
                items[i] = sort == SHORTS ? (short) v : v;
            }
        }
    }

    /**
     * The thing that acts, and the trace. A body that calls the one above it begins ahead of it, but
     * ends behind it: so the bodies of an act are noted from the lowest kind up, and done from the
     * top down.
     */
    private static final class Thing {
        final Pile trace = new Pile(MOST_TRACED);
        int kind = 0;
        int n = 0;
        int a = 0;
        private boolean isParted = false;

        /** An act (0 to 3); 0 for another one. */
        int perform(int act, int x) {
            isParted = false;
            int answer = 0;
            switch (act) {
                case 0: answer = saysOf(x); break;
                case 1: answer = leansOf(x); break;
                case 2: answer = fitsOf(x); break;
                case 3: answer = tellsOf(x); break;
                default: return 0;
            }
            return isParted ? PARTED_BY_0 : answer;
        }

        /** Whether a body runs, as the thing is of a kind or under it; it is traced then. */
        private boolean runs(int body, int ofKind) {
            if (!isUnder(kind, ofKind)) return false;
            trace.push(body);
            return true;
        }

        private int saysOf(int x) {
            if (runs(80, PERSON_KIND)) return a - x;
            boolean asSpoken = runs(70, SPOKEN);
            boolean asCopy = runs(50, COPY);
            boolean asLate = runs(20, LATE);
            trace.push(10);
            int said = x + a;
            if (asLate) said -= 1;
            if (asCopy) said ^= a;
            return asSpoken ? said * 5 : said;
        }

        private int leansOf(int x) {
            if (runs(81, PERSON_KIND)) return x + n;
            boolean asGain = runs(60, GAIN);
            boolean asCount = runs(30, COUNT);
            trace.push(11);
            int leant = saysOf(x) * 2;
            if (asCount) leant += saysOf(n);
            return asGain ? 0 - leant : leant;
        }

        private int fitsOf(int x) {
            if (runs(82, PERSON_KIND)) return x & a;
            boolean asCopy = runs(51, COPY);
            trace.push(12);
            int divisor = a - n;
            if (divisor == 0) {
                isParted = true;
                return 0;
            }
            return (asCopy ? x + 1 : x) / divisor;
        }

        private int tellsOf(int x) {
            if (runs(83, PERSON_KIND)) return saysOf(x) + leansOf(x);
            boolean asGain = runs(61, GAIN);
            boolean asPassed = runs(40, PASSED);
            trace.push(13);
            int told = leansOf(x) ^ n;
            if (asPassed) told *= 3;
            return asGain ? told + fitsOf(n) : told;
        }
    }
}
