import java.util.Random;

/**
 * Runs of 512 calls, wild ones among them, on an ElderPapers and on the model: all answers must be
 * the same. The seeds are fixed, so a run that fails can be run again.
 */
public final class ModelTests {
    private static final int KINDS_OF_STEPS = 47, MOST_CALLS_OF_A_STEP = 30;
    private static final int[] EDGES = {Integer.MIN_VALUE, Integer.MIN_VALUE + 1, -100, -2, -1, 0, 1, 2, 5, 6,
        7, 9, 10, 12, 14, 16, 17, 29, 30, 40, 41, 98, 99, 100, 159, 160, 161, 200, Integer.MAX_VALUE};

    private final Random random;
    private final Checks checks;
    private final Counted real = new Counted();
    private final ElderModel model = new ElderModel();
    private final int wildness;
    private final int birth;
    private int persons = 0;
    private int papers = 0;

    private ModelTests(long seed, int wildness, Checks checks) {
        this.random = new Random(seed);
        this.wildness = wildness;
        this.birth = random.nextInt(60);
        this.checks = checks;
    }

    public static void main(String[] args) {
        Checks checks = new Checks();
        for (int seed = 0; seed < 1500; seed++) {
            int before = checks.failed();
            new ModelTests(seed, seed % 3 == 0 ? 6 : 30, checks).run();
            if (checks.failed() > before) System.out.println("  .. that was seed " + seed);
            if (checks.failed() > 50) break;
        }
        checks.end("ModelTests");
    }

    private void run() {
        int opening = random.nextInt(12);
        for (int i = 0; i < opening; i++) step(0, i);
        if (opening >= 10) fill();
        for (int i = opening; real.calls() <= Counted.MOST - MOST_CALLS_OF_A_STEP; i++) step(pick(), i);
        for (int i = 0; real.calls() < Counted.MOST; i++) {
            if (real.calls() % 2 == 0) checks.due("to the last call", real.all(i % 10), model.all(i % 10));
            else checks.due("to the last call", real.clause(i % 10), model.clause(i % 10));
        }
        checks.due("calls", real.calls(), Counted.MOST);
    }

    // Nearly all there may be: so most of the calls that follow meet what is full.
    private void fill() {
        for (int i = 0; i < 45; i++) step(3, i);
        for (int i = 0; i < 45; i++) step(15, i);
        for (int i = 0; i < 22; i++) step(25, i);
        for (int i = 0; i < 9; i++) step(30, i);
    }

    // Calls that build come more often than the others, and what ends a run's variety less often.
    private int pick() {
        int n = random.nextInt(100);
        if (n < 14) return 3;
        if (n < 18) return 15;
        if (n < 24) return 20;
        if (n < 27) return 37;
        if (n < 31) return 38;
        if (n < 34) return 43;
        return random.nextInt(KINDS_OF_STEPS);
    }

    private boolean isWild() {
        return random.nextInt(wildness) == 0;
    }

    private int any(int below) {
        return isWild() ? EDGES[random.nextInt(EDGES.length)] : random.nextInt(below);
    }

    private int year() {
        if (isWild()) return EDGES[random.nextInt(EDGES.length)];
        int near = random.nextInt(4) == 0 ? random.nextInt(161) : birth + random.nextInt(7) - 3;
        return Math.max(0, Math.min(160, near));
    }

    private int aPerson() {
        return persons > 0 && !isWild() ? random.nextInt(persons) : any(10);
    }

    private int aPaper() {
        return papers > 0 && !isWild() ? random.nextInt(papers) : any(30);
    }

    private void step(int call, int i) {
        String at = "call " + i + " (" + call + ")";
        if (call < 16) {
            firstCalls(call, at);
        } else if (call < 30) {
            middleCalls(call, at);
        } else {
            lastCalls(call, at);
        }
        if (random.nextInt(4) == 0) {
            int what = any(10);
            checks.due(at + " many " + what, real.many(what), model.many(what));
        }
    }

    private void firstCalls(int call, String at) {
        int p = aPerson();
        int q = aPerson();
        int w = aPaper();
        int y = year();
        switch (call) {
            case 0: newPerson(at); break;
            case 1: int of = any(7); checks.due(at, real.personOf(p, of), model.personOf(p, of)); break;
            case 2: int what = any(7); checks.due(at, real.paperOf(w, what), model.paperOf(w, what)); break;
            case 3: newPaper(at); break;
            case 4: checks.due(at, real.correct(w, y), model.correct(w, y)); break;
            case 5: checks.due(at, real.span(w, y), model.span(w, y)); break;
            case 6: lifeTable(at); break;
            case 7: checks.due(at, real.weight(p, y), model.weight(p, y)); break;
            case 8: checks.due(at, real.all(p), model.all(p)); break;
            case 9: checks.due(at, real.best(p), model.best(p)); break;
            case 10:
                int age = any(120);
                int part = any(2);
                checks.due(at, real.share(p, age, part), model.share(p, age, part));
                break;
            case 11: checks.due(at, real.common(p, q), model.common(p, q)); break;
            case 12: checks.due(at, real.one(p, q), model.one(p, q)); break;
            case 13: checks.due(at, real.cut(p), model.cut(p)); break;
            case 14: checks.due(at, real.stands(), model.stands()); break;
            default: int on = aPaper(); checks.due(at, real.rest(w, on), model.rest(w, on));
        }
    }

    private void newPerson(String at) {
        int house = any(3);
        int name = any(3);
        int sex = any(2);
        int got = real.person(house, name, sex);
        checks.due(at, got, model.person(house, name, sex));
        if (got >= 0) persons++;
    }

    private void newPaper(String at) {
        int person = aPerson();
        int kind = isWild() ? any(9) : 1 + random.nextInt(7);
        int made = random.nextBoolean() ? year() : any(161);
        int tells = kind == 1 || kind == 2 || kind == 5 ? year() : kind == 7 ? year() + 5 : made - year();
        if (random.nextInt(6) == 0) tells = any(161);
        int wrong = random.nextInt(4) == 0 ? 0 : any(100);
        int of = aPaper();
        int got = real.paper(person, kind, made, tells, wrong, of);
        checks.due(at, got, model.paper(person, kind, made, tells, wrong, of));
        if (got >= 0) papers++;
    }

    private void lifeTable(String at) {
        int sheet = any(4);
        int size = random.nextInt(4) == 0 ? any(30) : 17;
        checks.due(at, real.sheet(sheet, 1, size), model.sheet(sheet, 1, size));
        for (int i = 0; i < 17; i++) {
            int n = random.nextInt(20) == 0 ? 100 : random.nextInt(100);
            if (random.nextInt(100) == 0) n = 101;
            checks.due(at, real.put(sheet, i, n), model.put(sheet, i, n));
        }
        checks.due(at, real.life(sheet), model.life(sheet));
    }

    private void middleCalls(int call, String at) {
        int p = aPerson();
        int w = aPaper();
        int y = year();
        switch (call) {
            case 16: checks.due(at, real.round(w), model.round(w)); break;
            case 17: checks.due(at, real.roots(w), model.roots(w)); break;
            case 18: feed(at, randomBytes()); break;
            case 19: checks.due(at, real.read(), model.read()); break;
            case 20:
                feed(at, text());
                checks.due(at, real.read(), model.read());
                break;
            case 21: checks.due(at, real.takes(p), model.takes(p)); break;
            case 22: checks.due(at, real.clause(p), model.clause(p)); break;
            case 23: checks.due(at, real.truth(p, y), model.truth(p, y)); break;
            case 24:
                int age = any(120);
                int what = any(2);
                checks.due(at, real.errs(age, what), model.errs(age, what));
                break;
            case 25:
                int to = random.nextInt(5) == 0 ? y - 1 : random.nextInt(161);
                int pence = 1 + any(99);
                checks.due(at, real.draw(p, y, to, pence), model.draw(p, y, to, pence));
                break;
            case 26: checks.due(at, real.behind(p), model.behind(p)); break;
            case 27: int i = any(10); checks.due(at, real.suspect(i), model.suspect(i)); break;
            case 28: int of = any(5); checks.due(at, real.heap(of), model.heap(of)); break;
            default:
                int house = any(3);
                int from = any(120);
                int by = any(3);
                checks.due(at, real.valley(house, from, by), model.valley(house, from, by));
        }
    }

    private void lastCalls(int call, String at) {
        int p = aPerson();
        int n = any(4);
        int i = any(20);
        switch (call) {
            case 30:
                int y = year();
                int cost = 1 + any(99);
                checks.due(at, real.question(p, y, cost), model.question(p, y, cost));
                break;
            case 31:
                boolean yes = random.nextBoolean();
                if (random.nextInt(3) == 0) checks.due(at, real.answer(i, yes), model.answer(i, yes));
                break;
            case 32: checks.due(at, real.next(p), model.next(p)); break;
            case 33: checks.due(at, real.prove(p), model.prove(p)); break;
            case 34: int col = any(2); checks.due(at, real.row(i, col), model.row(i, col)); break;
            case 35: alter(at); break;
            case 36: checks.due(at, real.judge(), model.judge()); break;
            case 37: newSheet(at, n); break;
            case 38: int v = any(200); checks.due(at, real.put(n, i, v), model.put(n, i, v)); break;
            case 39: int s = any(4); checks.due(at, real.item(n, s, i), model.item(n, s, i)); break;
            case 40: int m = any(11); checks.due(at, real.register(p, n, i, m), model.register(p, n, i, m)); break;
            case 41: newShelf(at, n); break;
            case 42: int as = any(15); checks.due(at, real.taken(n, as), model.taken(n, as)); break;
            case 43: act(at, n); break;
            case 44: checks.due(at, real.trace(i), model.trace(i)); break;
            case 45: if (random.nextInt(3) == 0) checks.due(at, real.keep(), model.keep()); break;
            default: again(at);
        }
    }

    private void alter(String at) {
        int i = any(8);
        int what = any(2);
        int v = any(12);
        int was = real.row(i, what);
        checks.due(at, real.alterRow(i, what, v), model.alterRow(i, what, v));
        checks.due(at, real.judge(), model.judge());
        if (random.nextBoolean()) checks.due(at, real.alterRow(i, what, was), model.alterRow(i, what, was));
    }

    private void newSheet(String at, int n) {
        int sort = any(5) - 1;
        int size = any(41);
        checks.due(at, real.sheet(n, sort, size), model.sheet(n, sort, size));
    }

    private void newShelf(String at, int n) {
        int what = any(4);
        int thing = what == 0 ? aPaper() : what == 1 ? aPerson() : any(4);
        checks.due(at, real.shelf(n, what, thing), model.shelf(n, what, thing));
        for (int as = -1; as <= 14; as++) checks.due(at, real.taken(n, as), model.taken(n, as));
    }

    private void act(String at, int n) {
        int act = any(4);
        int x = random.nextBoolean() ? random.nextInt() : any(200);
        checks.due(at, real.act(n, act, x), model.act(n, act, x));
        for (int i = -1; i <= 9; i++) checks.due(at + " trace", real.trace(i), model.trace(i));
    }

    private void again(String at) {
        if (random.nextInt(3) != 0) return;
        checks.due(at, real.again(), model.again());
        persons = Math.max(0, model.many(0));
        papers = Math.max(0, model.many(1));
    }

    private byte[] randomBytes() {
        byte[] bytes = new byte[1 + random.nextInt(20)];
        random.nextBytes(bytes);
        return bytes;
    }

    private void feed(String at, byte[] bytes) {
        for (int i = 0; i < bytes.length; i += 8) {
            int n = Math.min(8, bytes.length - i);
            long eight = random.nextLong() << 8 * n % 64;
            if (n == 8) eight = 0;
            for (int k = 0; k < n; k++) eight |= (bytes[i + k] & 255L) << (8 * k);
            int told = isWild() ? any(10) : n;
            checks.due(at, real.feed(eight, told), model.feed(eight, told));
        }
    }

    private byte[] text() {
        StringBuilder text = new StringBuilder();
        int clauses = random.nextInt(random.nextInt(5) == 0 ? 8 : 4);
        for (int i = 0; i < clauses; i++) {
            text.append(random.nextBoolean() ? "take " : "turn ");
            cond(text, 0);
            text.append(random.nextInt(4) == 0 ? " ; " : ";");
        }
        while (random.nextInt(3) == 0 && text.length() > 0) mutate(text);
        String s = text.substring(0, Math.min(text.length(), random.nextInt(9) == 0 ? random.nextInt(200) : 200));
        byte[] bytes = new byte[s.length()];
        for (int i = 0; i < bytes.length; i++) bytes[i] = (byte) s.charAt(i);
        return bytes;
    }

    private void mutate(StringBuilder text) {
        String[] bits = {" ", "a", "0", "(", ")", "<", "and ", " or ", "not ", ";", "take ", "share ", "%", "12", "\u00e9"};
        int at = random.nextInt(text.length());
        if (random.nextBoolean()) text.deleteCharAt(at);
        else text.insert(at, bits[random.nextInt(bits.length)]);
    }

    private void cond(StringBuilder text, int depth) {
        int parts = 1 + random.nextInt(depth == 0 ? 3 : 2);
        for (int i = 0; i < parts; i++) {
            if (i > 0) text.append(random.nextBoolean() ? " and " : " or ");
            while (random.nextInt(4) == 0) text.append("not ");
            if (random.nextInt(4) == 0 && depth < 4) {
                text.append('(');
                cond(text, depth + 1);
                text.append(')');
            } else {
                value(text);
                text.append(new String[] {"<", "=", ">", " > ", " <"}[random.nextInt(5)]);
                value(text);
            }
        }
    }

    private void value(StringBuilder text) {
        String[] words = {"papers", "stands", "age", "seen", "house", "wrong"};
        int n = random.nextInt(10);
        if (n < 6) text.append(words[n]);
        else if (n == 6) text.append("share ").append(any(120) & 1023);
        else text.append(random.nextInt(n == 7 ? 130 : 6));
    }
}
