import java.math.BigInteger;
import java.util.ArrayList;
import java.util.Arrays;
import java.util.Collections;
import java.util.Comparator;
import java.util.HashMap;
import java.util.HashSet;
import java.util.List;
import java.util.Map;
import java.util.Set;
import java.util.TreeSet;

/**
 * The document once more, in the longest way: sets of years, fractions without bounds, a tree for
 * the way, real classes for the things. It shares no code with ElderPapers and is there to be
 * compared with it.
 */
final class ElderModel {
    static final int BAD = -1, FULL = -2, NONE = -3, STATE = -4;

    static final class Person {
        int house, name, sex, truth = -1;
    }

    static final class Paper {
        int person, kind, made, tells, wrong, of = -9;
        Set<Integer> rests = new TreeSet<>();
    }

    static final class Draw {
        int person, from, to, pence;
    }

    static final class Question {
        int person, year, cost;
        Boolean yes = null;
    }

    static final class Clause {
        boolean take;
        Cond cond;
    }

    interface Cond {
        boolean holds(ElderModel model, int person);
    }

    interface Value {
        int of(ElderModel model, int person);
    }

    static final class Fault extends Exception {
        private static final long serialVersionUID = 1;
        final int place;

        Fault(int place) {
            this.place = place;
        }
    }

    static final class State {
        List<Person> persons = new ArrayList<>();
        List<Paper> papers = new ArrayList<>();
        List<Draw> draws = new ArrayList<>();
        List<Question> questions = new ArrayList<>();
        List<Clause> way = new ArrayList<>();
        int[] life = new int[17];

        State() {
            Arrays.fill(life, 100);
        }

        State copy() {
            State c = new State();
            for (Person p : persons) {
                Person q = new Person();
                q.house = p.house; q.name = p.name; q.sex = p.sex; q.truth = p.truth;
                c.persons.add(q);
            }
            for (Paper p : papers) {
                Paper q = new Paper();
                q.person = p.person; q.kind = p.kind; q.made = p.made; q.tells = p.tells;
                q.wrong = p.wrong; q.of = p.of; q.rests = new TreeSet<>(p.rests);
                c.papers.add(q);
            }
            for (Draw p : draws) {
                Draw q = new Draw();
                q.person = p.person; q.from = p.from; q.to = p.to; q.pence = p.pence;
                c.draws.add(q);
            }
            for (Question p : questions) {
                Question q = new Question();
                q.person = p.person; q.year = p.year; q.cost = p.cost; q.yes = p.yes;
                c.questions.add(q);
            }
            c.way = new ArrayList<>(way);
            c.life = life.clone();
            return c;
        }
    }

    private State s = new State();
    private State kept = null;
    private final List<Integer> tape = new ArrayList<>();
    private final List<int[]> rows = new ArrayList<>();
    private final long[][] sheets = new long[4][];
    private final int[] sorts = {-1, -1, -1, -1};
    private final int[][] shelves = {{3, 0, 0, 0}, {3, 0, 0, 0}, {3, 0, 0, 0}, {3, 0, 0, 0}};
    private final List<Integer> trace = new ArrayList<>();

    private static boolean in(long n, long from, long to) {
        return from <= n && n <= to;
    }

    private boolean noPerson(int person) {
        return !in(person, 0, s.persons.size() - 1);
    }

    private boolean noPaper(int paper) {
        return !in(paper, 0, s.papers.size() - 1);
    }

    private List<Paper> of(int person) {
        List<Paper> found = new ArrayList<>();
        for (Paper p : s.papers) if (p.person == person) found.add(p);
        return found;
    }

    int person(int house, int name, int sex) {
        if (!in(house, 0, 5) || !in(name, 0, 9) || !in(sex, 0, 1)) return BAD;
        if (s.persons.size() == 10) return FULL;
        Person p = new Person();
        p.house = house; p.name = name; p.sex = sex;
        s.persons.add(p);
        return s.persons.size() - 1;
    }

    int personOf(int person, int what) {
        if (noPerson(person) || !in(what, 0, 5)) return BAD;
        Person p = s.persons.get(person);
        int[] all = {p.house, p.name, p.sex, seen(person), of(person).size(), p.truth < 0 ? -9 : p.truth};
        return all[what];
    }

    private int seen(int person) {
        return of(person).stream().filter(p -> p.kind != 6).mapToInt(p -> p.made).max().orElse(0);
    }

    int paper(int person, int kind, int made, int tells, int wrong, int of) {
        if (noPerson(person) || !in(kind, 1, 7) || !in(made, 0, 160) || !in(tells, 0, 160)) return BAD;
        if (!in(wrong, 0, 99) || kind == 5 && noPaper(of)) return BAD;
        if (s.papers.size() == 30 || of(person).size() == 6) return FULL;
        Paper p = new Paper();
        p.person = person; p.kind = kind; p.made = made; p.tells = tells; p.wrong = wrong;
        if (kind == 5) p.of = of;
        s.papers.add(p);
        return s.papers.size() - 1;
    }

    int paperOf(int paper, int what) {
        if (noPaper(paper) || !in(what, 0, 5)) return BAD;
        Paper p = s.papers.get(paper);
        return new int[] {p.person, p.kind, p.made, p.tells, p.wrong, p.of}[what];
    }

    int correct(int paper, int v) {
        if (noPaper(paper) || !in(v, 0, 160)) return BAD;
        int was = s.papers.get(paper).tells;
        s.papers.get(paper).tells = v;
        return was;
    }

    private static final Map<List<Integer>, Set<Integer>> SPANS = new HashMap<>();

    private static Set<Integer> spanOf(Paper p) {
        return SPANS.computeIfAbsent(List.of(p.kind, p.made, p.tells), key -> newSpanOf(p));
    }

    private static Set<Integer> newSpanOf(Paper p) {
        Set<Integer> years = new TreeSet<>();
        int born = p.made - p.tells;
        switch (p.kind) {
            case 1: years.add(p.tells); break;
            case 2: years.addAll(List.of(p.tells - 1, p.tells, p.tells + 1)); break;
            case 3:
                int more = p.tells % 10 == 0 ? 5 : p.tells % 10 == 5 ? 2 : 1;
                for (int y = born - more; y <= born + more; y++) years.add(y);
                break;
            case 4: years.addAll(List.of(born, born - 1)); break;
            case 5:
                for (int y = 0; y <= 160; y++) {
                    String a = String.format("%03d", y);
                    String b = String.format("%03d", p.tells);
                    int same = 0;
                    for (int i = 0; i < 3; i++) if (a.charAt(i) == b.charAt(i)) same++;
                    if (same >= 2) years.add(y);
                }
                break;
            case 6: for (int y = 0; y <= born; y++) years.add(y); break;
            default: for (int y = 0; y <= p.tells - 5; y++) years.add(y);
        }
        years.removeIf(y -> y < 0 || y > 160 || y > p.made);
        return years;
    }

    int span(int paper, int year) {
        if (noPaper(paper) || !in(year, 0, 160)) return BAD;
        return spanOf(s.papers.get(paper)).contains(year) ? 1 : 0;
    }

    int life(int sheet) {
        if (!in(sheet, 0, 3)) return BAD;
        if (sheets[sheet] == null) return -11;
        if (sorts[sheet] != 1) return -13;
        if (sheets[sheet].length != 17) return STATE;
        for (long n : sheets[sheet]) if (!in(n, 0, 100)) return STATE;
        for (int i = 0; i < 17; i++) s.life[i] = (int) sheets[sheet][i];
        return 1;
    }

    private BigInteger weighed(int person, int year) {
        int seen = seen(person);
        if (year > seen) return BigInteger.ZERO;
        for (Question q : s.questions) {
            if (q.person != person || q.yes == null) continue;
            if (q.yes != (year <= q.year)) return BigInteger.ZERO;
        }
        BigInteger w = BigInteger.valueOf(s.life[(seen - year) / 10]);
        for (Paper p : of(person)) {
            w = w.multiply(BigInteger.valueOf(spanOf(p).contains(year) ? 100 - p.wrong : p.wrong));
        }
        return w;
    }

    private BigInteger weighed(int person, int from, int to) {
        BigInteger sum = BigInteger.ZERO;
        for (int y = Math.max(0, from); y <= Math.min(160, to); y++) sum = sum.add(weighed(person, y));
        return sum;
    }

    long weight(int person, int year) {
        if (noPerson(person) || !in(year, 0, 160)) return BAD;
        return weighed(person, year).longValueExact();
    }

    long all(int person) {
        return noPerson(person) ? BAD : weighed(person, 0, 160).longValueExact();
    }

    int best(int person) {
        if (noPerson(person)) return BAD;
        List<BigInteger> weights = new ArrayList<>();
        for (int y = 0; y <= 160; y++) weights.add(weighed(person, y));
        BigInteger greatest = Collections.max(weights);
        return greatest.signum() == 0 ? NONE : weights.indexOf(greatest);
    }

    long share(int person, int age, int what) {
        if (noPerson(person) || !in(age, 0, 160) || !in(what, 0, 1)) return BAD;
        BigInteger all = weighed(person, 0, 160);
        if (all.signum() == 0) return NONE;
        BigInteger part = weighed(person, 0, seen(person) - age);
        if (part.signum() == 0) return what;
        BigInteger g = part.gcd(all);
        return (what == 0 ? part : all).divide(g).longValueExact();
    }

    private Set<Integer> commonOf(List<Paper> papers) {
        Set<Integer> years = new TreeSet<>();
        for (int y = 0; y <= 160; y++) years.add(y);
        for (Paper p : papers) years.retainAll(spanOf(p));
        return years;
    }

    int common(int a, int b) {
        if (noPerson(a) || noPerson(b)) return BAD;
        List<Paper> both = of(a);
        both.addAll(of(b));
        return commonOf(both).size();
    }

    int one(int a, int b) {
        if (noPerson(a) || noPerson(b) || a == b) return BAD;
        Person p = s.persons.get(a);
        Person q = s.persons.get(b);
        if (p.sex != q.sex) return 0;
        if (p.name != q.name && p.house != q.house) return 0;
        return common(a, b) == 0 ? 0 : 1;
    }

    int cut(int person) {
        if (noPerson(person)) return BAD;
        List<Paper> papers = of(person);
        papers.sort(Comparator.comparingInt(p -> p.made));
        for (int k = 0; k < papers.size(); k++) {
            boolean late = !commonOf(papers.subList(k, papers.size())).isEmpty();
            boolean early = !commonOf(papers.subList(0, k)).isEmpty();
            if (late && early) return k;
        }
        return NONE;
    }

    int rest(int a, int b) {
        if (noPaper(a) || noPaper(b) || a == b) return BAD;
        if (s.papers.get(a).rests.contains(b)) return STATE;
        if (many(3) == 40) return FULL;
        s.papers.get(a).rests.add(b);
        return many(3);
    }

    private Set<Integer> below(int paper) {
        Set<Integer> on = new TreeSet<>(s.papers.get(paper).rests);
        if (s.papers.get(paper).of >= 0) on.add(s.papers.get(paper).of);
        return on;
    }

    private void over(int paper, Set<Integer> found) {
        for (int on : below(paper)) if (found.add(on)) over(on, found);
    }

    private Set<Integer> over(int paper) {
        Set<Integer> found = new HashSet<>();
        over(paper, found);
        return found;
    }

    // A paper stands just if a chain leads from it to one that rests on none.
    private boolean isStanding(int paper) {
        return roots(paper) != 0;
    }

    int stands() {
        int bits = 0;
        for (int p = 0; p < s.papers.size(); p++) if (isStanding(p)) bits |= 1 << p;
        return bits;
    }

    int round(int paper) {
        return noPaper(paper) ? BAD : over(paper).contains(paper) ? 1 : 0;
    }

    int roots(int paper) {
        if (noPaper(paper)) return BAD;
        Set<Integer> all = over(paper);
        all.add(paper);
        int bits = 0;
        for (int p : all) if (below(p).isEmpty()) bits |= 1 << p;
        return bits;
    }

    int feed(long eight, int n) {
        if (!in(n, 1, 8)) return BAD;
        if (tape.size() + n > 200) return FULL;
        for (int i = 0; i < n; i++) tape.add((int) (eight >>> (8 * i) & 0xff));
        return tape.size();
    }

    int read() {
        StringBuilder text = new StringBuilder();
        for (int b : tape) text.append((char) b);
        tape.clear();
        try {
            s.way = new Way(text.toString()).clauses();
            return s.way.size();
        } catch (Fault fault) {
            return -100 - fault.place;
        }
    }

    static final class Way {
        private final String text;
        private int at = 0;
        private String token = "";
        private int open = 0;

        Way(String text) {
            this.text = text;
        }

        private boolean isIn(int place, String signs) {
            return place < text.length() && signs.indexOf(text.charAt(place)) >= 0;
        }

        // The token stays what it is until it is taken: its place is at.
        private String look() {
            while (isIn(at, " ")) at++;
            if (at >= text.length()) return token = "";
            for (String signs : List.of("abcdefghijklmnopqrstuvwxyz", "0123456789")) {
                int end = at;
                while (isIn(end, signs)) end++;
                if (end > at) return token = text.substring(at, end);
            }
            return token = text.substring(at, at + 1);
        }

        private boolean isNext(String... words) {
            return Arrays.asList(words).contains(look());
        }

        private String take(String... words) throws Fault {
            if (!isNext(words)) throw new Fault(at);
            at += token.length();
            return token;
        }

        List<Clause> clauses() throws Fault {
            List<Clause> found = new ArrayList<>();
            while (!look().isEmpty()) {
                if (found.size() == 6) throw new Fault(at);
                Clause clause = new Clause();
                clause.take = take("take", "turn").equals("take");
                clause.cond = cond();
                take(";");
                found.add(clause);
            }
            return found;
        }

        private Cond cond() throws Fault {
            Cond left = both();
            while (isNext("or")) {
                take("or");
                Cond a = left;
                Cond b = both();
                left = (m, p) -> a.holds(m, p) || b.holds(m, p);
            }
            return left;
        }

        private Cond both() throws Fault {
            Cond left = single();
            while (isNext("and")) {
                take("and");
                Cond a = left;
                Cond b = single();
                left = (m, p) -> a.holds(m, p) && b.holds(m, p);
            }
            return left;
        }

        private Cond single() throws Fault {
            if (isNext("not")) {
                take("not");
                Cond a = single();
                return (m, p) -> !a.holds(m, p);
            }
            if (isNext("(")) {
                if (open == 3) throw new Fault(at);
                take("(");
                open++;
                Cond inner = cond();
                take(")");
                open--;
                return inner;
            }
            Value left = value();
            String sign = take("<", "=", ">");
            Value right = value();
            return (m, p) -> {
                int order = Integer.compare(left.of(m, p), right.of(m, p));
                return order == (sign.equals("<") ? -1 : sign.equals("=") ? 0 : 1);
            };
        }

        private int number() throws Fault {
            look();
            if (!token.matches("[0-9]{1,3}")) throw new Fault(at);
            return Integer.parseInt(take(token));
        }

        private Value value() throws Fault {
            if (look().matches("[0-9]+")) {
                int n = number();
                return (m, p) -> n;
            }
            String word = take("papers", "stands", "age", "seen", "house", "wrong", "share");
            if (word.equals("share")) {
                int n = number();
                return (m, p) -> m.hundredths(p, n);
            }
            return (m, p) -> m.told(word, p);
        }
    }

    private int hundredths(int person, int age) {
        BigInteger all = weighed(person, 0, 160);
        if (all.signum() == 0) return 0;
        BigInteger part = weighed(person, 0, seen(person) - age);
        return part.multiply(BigInteger.valueOf(100)).divide(all).intValueExact();
    }

    private int told(String word, int person) {
        int best = best(person);
        int count = 0;
        switch (word) {
            case "papers": return of(person).size();
            case "stands":
                for (int p = 0; p < s.papers.size(); p++) {
                    if (s.papers.get(p).person == person && isStanding(p)) count++;
                }
                return count;
            case "age": return best < 0 ? 0 : seen(person) - best;
            case "seen": return seen(person);
            case "house": return s.persons.get(person).house;
            default:
                for (Paper p : of(person)) if (best >= 0 && !spanOf(p).contains(best)) count++;
                return count;
        }
    }

    int clause(int person) {
        if (noPerson(person)) return BAD;
        for (int i = 0; i < s.way.size(); i++) if (s.way.get(i).cond.holds(this, person)) return i;
        return NONE;
    }

    int takes(int person) {
        if (noPerson(person)) return BAD;
        int clause = clause(person);
        return clause >= 0 && s.way.get(clause).take ? 1 : 0;
    }

    int truth(int person, int year) {
        if (noPerson(person) || !in(year, -1, 160)) return BAD;
        s.persons.get(person).truth = year;
        return 1;
    }

    int errs(int age, int what) {
        if (!in(age, 0, 160) || !in(what, 0, 1)) return BAD;
        int[] errs = {0, 0};
        for (int p = 0; p < s.persons.size(); p++) {
            if (s.persons.get(p).truth < 0) continue;
            boolean below = seen(p) - s.persons.get(p).truth < age;
            boolean taken = takes(p) == 1;
            if (taken && below) errs[0]++;
            if (!taken && !below) errs[1]++;
        }
        return errs[what];
    }

    int draw(int person, int from, int to, int pence) {
        if (noPerson(person) || !in(from, 0, 160) || !in(to, from, 160) || !in(pence, 1, 99)) return BAD;
        if (s.draws.size() == 20) return FULL;
        Draw d = new Draw();
        d.person = person; d.from = from; d.to = to; d.pence = pence;
        s.draws.add(d);
        return s.draws.size() - 1;
    }

    int behind(int person) {
        if (noPerson(person)) return BAD;
        int paid = 0;
        for (Draw d : s.draws) {
            for (int y = d.from; y <= d.to; y++) if (d.person == person && y > seen(person)) paid += d.pence;
        }
        return paid;
    }

    int suspect(int i) {
        List<Integer> suspects = new ArrayList<>();
        for (int p = 0; p < s.persons.size(); p++) if (behind(p) > 0) suspects.add(p);
        suspects.sort(Comparator.comparingInt(p -> -behind(p)));
        return in(i, 0, suspects.size() - 1) ? suspects.get(i) : NONE;
    }

    int heap(int what) {
        int[] heap = {0, 0, 0, 0};
        for (Paper p : s.papers) if (p.kind == 3) heap[p.tells % 10 == 0 ? 0 : p.tells % 5 == 0 ? 1 : 2]++;
        int all = heap[0] + heap[1] + heap[2];
        if (all > 0) heap[3] = 500 * (heap[0] + heap[1]) / all;
        return in(what, 0, 3) ? heap[what] : BAD;
    }

    int valley(int house, int age, int what) {
        if (!in(house, 0, 5) || !in(age, 0, 160) || !in(what, 0, 2)) return BAD;
        int n = 0;
        for (int p = 0; p < s.persons.size(); p++) {
            if (s.persons.get(p).house != house || best(p) < 0) continue;
            if (what == 0 && share(p, age, 0) == 1 && share(p, age, 1) == 1) n++;
            if (what == 1 && seen(p) - best(p) >= age) n++;
            if (what == 2 && share(p, age, 0) > 0) n++;
        }
        return n;
    }

    int question(int person, int year, int cost) {
        if (noPerson(person) || !in(year, 0, 160) || !in(cost, 1, 99)) return BAD;
        if (s.questions.size() == 8) return FULL;
        Question q = new Question();
        q.person = person; q.year = year; q.cost = cost;
        s.questions.add(q);
        return s.questions.size() - 1;
    }

    int answer(int question, boolean yes) {
        if (!in(question, 0, s.questions.size() - 1)) return BAD;
        if (s.questions.get(question).yes != null) return STATE;
        s.questions.get(question).yes = yes;
        return many(6);
    }

    int next(int person) {
        if (noPerson(person)) return BAD;
        int found = NONE;
        BigInteger least = null;
        for (int i = 0; i < s.questions.size(); i++) {
            Question q = s.questions.get(i);
            if (q.person != person || q.yes != null) continue;
            BigInteger price = weighed(person, 0, q.year).max(weighed(person, q.year + 1, 160))
                .multiply(BigInteger.valueOf(q.cost));
            if (least != null && price.compareTo(least) >= 0) continue;
            found = i;
            least = price;
        }
        return found;
    }

    private List<int[]> proof(int person) {
        List<int[]> all = new ArrayList<>();
        all.add(new int[] {person, best(person)});
        for (int p = 0; p < s.papers.size(); p++) {
            if (s.papers.get(p).person == person) all.add(new int[] {p, span(p, best(person))});
        }
        return all;
    }

    int prove(int person) {
        if (noPerson(person)) return BAD;
        if (best(person) < 0) return NONE;
        rows.clear();
        rows.addAll(proof(person));
        return rows.size();
    }

    int row(int i, int what) {
        return in(i, 0, rows.size() - 1) && in(what, 0, 1) ? rows.get(i)[what] : -9;
    }

    int alterRow(int i, int what, int v) {
        int was = row(i, what);
        if (in(i, 0, rows.size() - 1) && in(what, 0, 1)) rows.get(i)[what] = v;
        return was;
    }

    int judge() {
        if (rows.isEmpty()) return 30;
        int person = rows.get(0)[0];
        if (noPerson(person) || best(person) < 0) return 1;
        List<int[]> due = proof(person);
        for (int i = 0; i < rows.size(); i++) {
            if (i >= due.size() || !Arrays.equals(due.get(i), rows.get(i))) return i + 1;
        }
        return rows.size() < due.size() ? 20 : 0;
    }

    int sheet(int sheet, int sort, int n) {
        if (!in(sheet, 0, 3) || !in(sort, -1, 3) || sort >= 0 && n > 40) return BAD;
        if (sort >= 0 && n < 0) return -14;
        sorts[sheet] = sort;
        sheets[sheet] = sort < 0 ? null : new long[n];
        return 1;
    }

    int put(int sheet, int i, int v) {
        if (!in(sheet, 0, 3)) return BAD;
        if (sheets[sheet] == null) return -11;
        if (!in(i, 0, sheets[sheet].length - 1)) return -12;
        long[] narrowed = {(byte) v, (short) v, v, v};
        sheets[sheet][i] = narrowed[sorts[sheet]];
        return 1;
    }

    int item(int sheet, int sort, int i) {
        if (!in(sheet, 0, 3) || !in(sort, 0, 3)) return BAD;
        if (sheets[sheet] == null) return -11;
        if (sorts[sheet] != sort) return -13;
        return in(i, 0, sheets[sheet].length - 1) ? (int) sheets[sheet][i] : -12;
    }

    int register(int person, int sheet, int i, int n) {
        if (!in(sheet, 0, 3) || noPerson(person) || !in(n, 0, 10)) return BAD;
        if (sheets[sheet] == null) return -11;
        if (sorts[sheet] != 0) return -13;
        int came = 0;
        for (long k = 0; k < n; k++) {
            long first = i + 2 * k;
            if (!in(first, 0, sheets[sheet].length - 2)) return -12;
            long made = sheets[sheet][(int) first];
            long tells = sheets[sheet][(int) first + 1];
            if (paper(person, 3, (int) made, (int) tells, 10, -1) >= 0) came++;
        }
        return came;
    }

    int shelf(int shelf, int what, int n) {
        if (!in(shelf, 0, 3) || !in(what, 0, 3)) return BAD;
        if (what == 0 && noPaper(n) || what == 1 && noPerson(n) || what == 2 && !in(n, 0, 3)) return BAD;
        shelves[shelf] = new int[] {what, n, 0, 0};
        if (what != 2) return 1;
        if (sheets[n] == null) shelves[shelf][0] = 3;
        else shelves[shelf] = new int[] {2, n, sorts[n], sheets[n].length};
        return 1;
    }

    // A thing, a row's int[], or null.
    private Object on(int shelf) {
        int[] held = shelves[shelf];
        if (held[0] == 0 && !noPaper(held[1])) return thing(held[1]);
        if (held[0] == 1 && !noPerson(held[1])) return new Human(held[1], seen(held[1]));
        return held[0] == 2 ? held : null;
    }

    private Thing thing(int n) {
        int a = s.papers.get(n).tells;
        switch (s.papers.get(n).kind) {
            case 1: return new Once(n, a);
            case 2: return new Late(n, a);
            case 3: return new Count(n, a);
            case 4: return new Passed(n, a);
            case 5: return new Copy(n, a);
            case 6: return new Gain(n, a);
            default: return new Spoken(n, a);
        }
    }

    int taken(int shelf, int as) {
        List<Class<?>> kinds = List.of(Writing.class, Once.class, Late.class, Count.class, Passed.class,
            Copy.class, Gain.class, Spoken.class, Human.class);
        if (!in(shelf, 0, 3) || !in(as, 0, 8) && !in(as, 10, 13)) return BAD;
        Object held = on(shelf);
        if (held == null) return -11;
        if (held instanceof int[]) return ((int[]) held)[2] == as - 10 ? ((int[]) held)[3] : -13;
        return as <= 8 && kinds.get(as).isInstance(held) ? ((Thing) held).n : -13;
    }

    int act(int shelf, int act, int x) {
        trace.clear();
        if (!in(shelf, 0, 3) || !in(act, 0, 3) || !(on(shelf) instanceof Thing)) return 0;
        Thing t = (Thing) on(shelf);
        try {
            return act == 0 ? t.says(x) : act == 1 ? t.leans(x) : act == 2 ? t.fits(x) : t.tells(x);
        } catch (Parted parted) {
            return -15;
        }
    }

    static final class Parted extends RuntimeException {
        private static final long serialVersionUID = 1;
    }

    abstract class Thing {
        final int n, a;

        Thing(int n, int a) {
            this.n = n;
            this.a = a;
        }

        void body(int number) {
            if (trace.size() < 30) trace.add(number);
        }

        abstract int says(int x);

        abstract int leans(int x);

        abstract int fits(int x);

        abstract int tells(int x);
    }

    class Writing extends Thing {
        Writing(int n, int a) { super(n, a); }

        int says(int x) { body(10); return x + a; }

        int leans(int x) { body(11); return says(x) * 2; }

        int fits(int x) {
            body(12);
            if (a == n) throw new Parted();
            return x / (a - n);
        }

        int tells(int x) { body(13); return leans(x) ^ n; }
    }

    class Once extends Writing {
        Once(int n, int a) { super(n, a); }
    }

    class Late extends Writing {
        Late(int n, int a) { super(n, a); }

        int says(int x) { body(20); return super.says(x) - 1; }
    }

    class Count extends Writing {
        Count(int n, int a) { super(n, a); }

        int leans(int x) { body(30); return super.leans(x) + says(n); }
    }

    class Passed extends Once {
        Passed(int n, int a) { super(n, a); }

        int tells(int x) { body(40); return super.tells(x) * 3; }
    }

    class Copy extends Late {
        Copy(int n, int a) { super(n, a); }

        int says(int x) { body(50); return super.says(x) ^ a; }

        int fits(int x) { body(51); return super.fits(x + 1); }
    }

    class Gain extends Count {
        Gain(int n, int a) { super(n, a); }

        int leans(int x) { body(60); return 0 - super.leans(x); }

        int tells(int x) { body(61); return super.tells(x) + fits(n); }
    }

    class Spoken extends Copy {
        Spoken(int n, int a) { super(n, a); }

        int says(int x) { body(70); return super.says(x) * 5; }
    }

    class Human extends Thing {
        Human(int n, int a) { super(n, a); }

        int says(int x) { body(80); return a - x; }

        int leans(int x) { body(81); return x + n; }

        int fits(int x) { body(82); return x & a; }

        int tells(int x) { body(83); return says(x) + leans(x); }
    }

    int trace(int i) {
        return in(i, 0, trace.size() - 1) ? trace.get(i) : NONE;
    }

    int many(int what) {
        switch (what) {
            case 0: return s.persons.size();
            case 1: return s.papers.size();
            case 2: return s.way.size();
            case 3: return s.papers.stream().mapToInt(p -> p.rests.size()).sum();
            case 4: return s.draws.size();
            case 5: return s.questions.size();
            case 6: return (int) s.questions.stream().filter(q -> q.yes != null).count();
            case 7: return rows.size();
            case 8: return tape.size();
            case 9: return trace.size();
            default: return BAD;
        }
    }

    int keep() {
        kept = s.copy();
        return 1;
    }

    int again() {
        if (kept == null) return NONE;
        s = kept.copy();
        return 1;
    }
}
