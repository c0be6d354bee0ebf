import java.util.ArrayList;
import java.util.Arrays;
import java.util.List;

/** Edges of the way: term 3, promises 20 to 25. */
public final class WayEdgeTests extends Edge {
    private static final String[] WORDS = {"take", "turn", "or", "and", "not", "papers", "stands", "age", "seen",
        "house", "wrong", "share"};

    public static void main(String[] args) {
        WayEdgeTests tests = new WayEdgeTests();
        tests.tape();
        tests.words();
        tests.grammar();
        tests.values();
        tests.judging();
        tests.checks.end("WayEdgeTests");
    }

    /** What read() answers of a text, in an object that is used for a few texts only. */
    private int read(String text) {
        if (x.calls() > Counted.MOST - 40) fresh();
        return x.readText(text);
    }

    private void readIs(String text, int answer) {
        due("read of <" + text + ">", read(text), answer);
    }

    private void faultAt(String text, int place) {
        readIs(text, -100 - place);
    }

    // ---- the tape

    private void tape() {
        twoHundred();
        lowestFirst();
        usedUp();
    }

    private void feedUpTo(int bytes) {
        while (x.many(8) < bytes) x.feed(0x2020202020202020L, Math.min(8, bytes - x.many(8)));
    }

    private void twoHundred() {
        of("THE TAPE takes bytes, 200 at most .. n bytes (1 to 8) .. FULL: more than 200");
        for (int n = 1; n <= 8; n++) {
            fresh();
            due(n + " on an empty one", x.feed(-1, n), n);
            fresh();
            feedUpTo(200 - n);
            due(n + " to the last", x.feed(-1, n), 200);
            for (int more = 1; more <= 8; more++) due("one that is full", x.feed(-1, more), FULL);
            due("two hundred", x.many(8), 200);
            fresh();
            feedUpTo(201 - n);
            due(n + " beyond the last", x.feed(-1, n), FULL);
            due("none of them came", x.many(8), 201 - n);
            due("all are blanks", x.read(), 0);
        }
        fresh();
        for (int i = 1; i <= 200; i++) due("one by one", x.feed(' ', 1), i);
        due("the two hundred and first", x.feed(' ', 1), FULL);
        due("bad ahead of full", x.feed(' ', 9), BAD);
        due("bad ahead of full, 0", x.feed(' ', 0), BAD);
        due("two hundred blanks are no clause", x.read(), 0);
        due("and empty again", x.feed(' ', 8), 8);
        fresh();
        for (int n : new int[] {0, -1, 9, MIN, MAX}) due(n + " bytes", x.feed(-1, n), BAD);
        due("none came", x.many(8), 0);
    }

    private void lowestFirst() {
        of("the lowest of eight first");
        for (int n = 1; n <= 8; n++) {
            fresh();
            x.feed(0x656b6174L, 4);
            x.feed(0x2020202020202020L, 8 - n + 1);
            long eight = 0x7a7a7a7a7a7a7a7aL << 8 * (n - 1);
            if (n > 1) eight |= 0x2020202020202020L >>> 8 * (9 - n);
            due(n + " bytes", x.feed(eight, n), 13);
            due("the last of " + n + " is a z", x.read(), -112);
        }
        fresh();
        x.feed(0x303d3120656b6174L, 8);
        x.feed(Long.MIN_VALUE | ';', 1);
        due("what is above n stays away", x.read(), 1);
        x.feed(Long.MIN_VALUE, 8);
        due("the sign of a long is a byte's", x.read(), -100);
        x.feed(0x80 << 8 | 0x20, 2);
        due("a byte of 128", x.read(), -101);
        x.feed(-1L, 8);
        due("bytes of 255", x.read(), -100);
        x.feed(0xffffff20ffffff20L, 1);
        due("no byte but the lowest", x.read(), 0);
    }

    private void usedUp() {
        of("read() uses it up");
        String[] texts = {"", " ", "take 1=1;", "take", "take 1=1;x", "x".repeat(200), " ".repeat(200)};
        int[] answers = {0, 0, 1, -104, -109, -100, 0};
        for (int i = 0; i < texts.length; i++) {
            readIs(texts[i], answers[i]);
            due("the tape is empty", x.many(8), 0);
            due("nothing is left", x.read(), 0);
            due("an empty text is an empty way", x.many(2), 0);
        }
        of("-100 less its FAULT: such a call changes nothing but THE TAPE");
        persons(1);
        due("a way", x.readText("turn 1=2;take 1=1;"), 2);
        String[] faults = {"turn 1=1;take", "x", "turn 1=1; turn 1=1; turn 1=1; and", "turn ((((1=1))));", "turn 1=1"};
        for (String fault : faults) {
            due("<" + fault + ">", x.readText(fault) <= -100 ? 1 : 0, 1);
            due("the way stays", x.many(2), 2);
            due("its clause stays", x.clause(0), 1);
            due("so it is taken", x.takes(0), 1);
            due("the tape is used up", x.many(8), 0);
        }
        due("an empty text takes its place", x.read(), 0);
        due("no clause", x.clause(0), NONE);
    }

    // ---- words, numbers, blanks

    private void words() {
        bytes();
        wordsAsTold();
        numbers();
        blanks();
    }

    private void bytes() {
        of("rows of letters a to z .. rows of digits .. blanks (32) between .. other byte");
        for (int b = 0; b < 256; b++) {
            char sign = (char) b;
            boolean isBlank = b == 32;
            boolean isLetter = sign >= 'a' && sign <= 'z';
            boolean isDigit = sign >= '0' && sign <= '9';
            boolean isSign = sign == '<' || sign == '=' || sign == '>';
            readIs(sign + "take 1=1;", isBlank ? 1 : -100);
            readIs("take 1=1" + sign + ";", isBlank || isDigit ? 1 : sign == ';' ? -109 : -108);
            readIs("take 1=1;" + sign, isBlank ? 1 : -109);
            readIs("take 1" + sign + "2;", isSign ? 1 : isDigit ? -108 : isBlank ? -107 : -106);
            readIs("take " + sign + "=1;", isDigit ? 1 : isBlank || sign == '(' ? -106 : -105);
            readIs("ta" + sign + "ke 1=1;", -100);
            readIs("take age" + sign + "1;", isSign ? 1 : isBlank ? -109 : isLetter ? -105 : -108);
            readIs("take 1=age" + sign, sign == ';' ? 1 : isBlank ? -111 : isLetter ? -107 : -110);
        }
    }

    private void wordsAsTold() {
        of("with which no TEXT goes on: a WORD that is none of these");
        for (String word : WORDS) {
            for (int i = 0; i < word.length(); i++) {
                for (String other : new String[] {word.substring(0, i) + word.substring(i + 1),
                    word.substring(0, i) + (char) (word.charAt(i) + 1) + word.substring(i + 1),
                    word.substring(0, i) + Character.toUpperCase(word.charAt(i)) + word.substring(i + 1),
                    word.substring(0, i + 1) + word.substring(i)}) {
                    wordIs(word, other);
                }
            }
            wordIs(word, word + "s");
            wordIs(word, "s" + word);
        }
        readIs("take" + "t".repeat(196), -100);
        faultAt("take " + "age".repeat(60) + "=1;", 5);
    }

    // Only what comes after "take 1=1 " and "take " is looked at: there each word has its place.
    private void wordIs(String word, String other) {
        switch (word) {
            case "take": case "turn": faultAt(other + " 1=1;", 0); break;
            case "or": case "and": faultAt("take 1=1 " + other + " 1=1;", 9); break;
            case "not": faultAt("take " + other + " 1=1;", 5); break;
            case "share": faultAt("take " + other + " 7=1;", 5); break;
            default:
                faultAt("take " + other + "=1;", 5);
                faultAt("take 1=" + other + ";", 7);
        }
    }

    private void numbers() {
        of("NUMBERS rows of digits (3 at most), as long as they go");
        for (String n : new String[] {"0", "9", "10", "99", "100", "160", "161", "999", "00", "000", "007"}) {
            readIs("take " + n + "=1;", 1);
            readIs("take 1=" + n + ";", 1);
            readIs("take share " + n + "=1;", 1);
            readIs("take 1=share " + n + ";", 1);
            readIs("take 1=1 and " + n + "=1;", 1);
        }
        for (String n : new String[] {"0000", "1000", "0001", "9999", "00000", "1234567890", "9".repeat(60)}) {
            faultAt("take " + n + "=1;", 5);
            faultAt("take 1=" + n + ";", 7);
            faultAt("take share " + n + "=1;", 11);
            faultAt("take 1=share " + n + ";", 13);
            faultAt("take 1=1 and " + n, 13);
            faultAt("take " + n, 5);
        }
        persons(1);
        String[] so = {"999=999", "999>998", "998<999", "000=0", "010=10", "099=99", "100>99", "0<1"};
        for (String cond : so) {
            readIs("take " + cond + ";", 1);
            due(cond, x.takes(0), 1);
        }
    }

    private void blanks() {
        of("as long as they go; blanks (32) between");
        String[] taken = {"take1=1;", "take 1=1or 1=1;", "take 1=1or1=1and1=1;", "take not(1=1)or not(1=1);",
            "take 1=1;turn 1=1;", "   take   1   =   1   ;   ", "take(1=1);", "take share5=share5;"};
        int[] answers = {1, 1, 1, 1, 2, 1, 1, 1};
        for (int i = 0; i < taken.length; i++) readIs(taken[i], answers[i]);
        faultAt("take share5=5share", 13);
        faultAt("takeage=1;", 0);
        faultAt("take notage=1;", 5);
        faultAt("take 1=1 ornot 1=1;", 9);
        faultAt("take 1=1andnot 1=1;", 8);
        faultAt("take age=ageor 1=1;", 9);
        faultAt("take 1 0=1;", 7);
        faultAt("ta ke 1=1;", 0);
        faultAt("take sha re 1=1;", 5);
        faultAt("take 1\t=1;", 6);
        faultAt("take 1\n=1;", 6);
        faultAt("take 1\u00a0=1;", 6);
        faultAt("take 1_=1;", 6);
    }

    // ---- how a text goes on

    private void grammar() {
        followers();
        ends();
        sevenClauses();
        fourOpen();
        lastBytes();
    }

    private static final String[] VALUES = {"papers", "stands", "age", "seen", "house", "wrong", "share", "7"};
    private static final String[] TOKENS = {"take", "turn", "or", "and", "not", "papers", "stands", "age", "seen",
        "house", "wrong", "share", "7", "(", ")", "<", "=", ">", ";", "1000", "x", "%"};

    private static List<String> all(String[] some, String... more) {
        List<String> both = new ArrayList<>(Arrays.asList(some));
        both.addAll(Arrays.asList(more));
        return both;
    }

    private void followedBy(String ahead, List<String> goOn) {
        for (String token : TOKENS) {
            String text = ahead + " " + token;
            int place = goOn.contains(token) ? text.length() : ahead.length() + 1;
            faultAt(text, place);
            faultAt(text + " ", goOn.contains(token) ? place + 1 : place);
        }
        faultAt(ahead, ahead.length());
        faultAt(ahead + "   ", ahead.length() + 3);
    }

    private void followers() {
        of("with which no TEXT goes on, .. or the end, if more must come");
        List<String> signs = List.of("<", "=", ">");
        List<String> ones = all(VALUES, "not", "(");
        for (String clause : new String[] {"take", "turn", "take 1=1;take", "turn not (1=1);turn"}) followedBy(clause, ones);
        for (String open : new String[] {"take (", "take not", "take not not", "take 1=1 and", "take 1=1 or",
            "take (1=1 or", "take ((", "take (1=1) and", "take not (1=1 and (1=1) or"}) followedBy(open, ones);
        for (String left : new String[] {"papers", "stands", "age", "seen", "house", "wrong", "share 7", "7", "000"}) {
            followedBy("take " + left, signs);
            followedBy("take not (" + left, signs);
            for (String sign : signs) followedBy("turn " + left + sign, Arrays.asList(VALUES));
            inBrackets("take (1=" + left);
        }
        followedBy("take share", List.of("7"));
        followedBy("take 1=share", List.of("7"));
        for (String inner : new String[] {"take (1=1", "take ((1=1)", "take (not 1=1 and 1=1"}) inBrackets(inner);
        for (String outer : new String[] {"take 1=1", "take (1=1)", "take not 1=1", "take ((1=1))", "take 1=share 7"}) {
            followedByEnd(outer, List.of("or", "and"));
        }
        for (String token : TOKENS) {
            boolean isClause = token.equals("take") || token.equals("turn");
            faultAt(token, isClause ? 4 : 0);
            faultAt("  " + token, isClause ? 6 : 2);
            faultAt("take 1=1; " + token, isClause ? 14 : 10);
        }
    }

    private void inBrackets(String ahead) {
        followedBy(ahead, List.of("or", "and", ")"));
    }

    /** As followedBy, where ";" ends the text. */
    private void followedByEnd(String ahead, List<String> goOn) {
        for (String token : TOKENS) {
            String text = ahead + " " + token;
            if (token.equals(";")) readIs(text, 1);
            else faultAt(text, goOn.contains(token) ? text.length() : ahead.length() + 1);
        }
        faultAt(ahead, ahead.length());
    }

    private void ends() {
        of("or the end (how many bytes there are), if more must come");
        String[] tokens = {"take", "not", "(", "share", "12", "<", "age", "and", "(", "seen", ">", "0", ")", ")", "or",
            "1", "=", "papers"};
        StringBuilder text = new StringBuilder();
        for (String token : tokens) {
            text.append(token);
            faultAt(text.toString(), text.length());
            text.append(' ');
            faultAt(text.toString(), text.length());
            text.append("  ");
            faultAt(text.toString(), text.length());
        }
        readIs(text.append(";").toString(), 1);
        readIs(text.append("   ").toString(), 1);
        readIs("", 0);
        readIs("     ", 0);
    }

    private void sevenClauses() {
        of("6 CLAUSES at most .. FAULT: the seventh CLAUSE: its WORD");
        String one = "turn 1=1;";
        for (int n = 0; n <= 6; n++) {
            readIs(one.repeat(n), n);
            due("how many", x.many(2), n);
        }
        for (String seventh : new String[] {one, "take 1=1;", "take", "turn x", "take ((((", "turn 1000", "and", "x", ";"}) {
            faultAt(one.repeat(6) + seventh, 54);
            faultAt(one.repeat(6) + "   " + seventh, 57);
        }
        faultAt(one.repeat(8), 54);
        readIs(one.repeat(6) + "  ", 6);
        faultAt(one.repeat(5) + "turn 1=1", 53);
        faultAt(one.repeat(5) + "turn x" + one, 50);
    }

    private void fourOpen() {
        of("At most 3 \"(\" are open within one another .. the fourth \"(\"");
        readIs("take (1=1);", 1);
        readIs("take ((1=1));", 1);
        readIs("take (((1=1)));", 1);
        faultAt("take ((((1=1))));", 8);
        faultAt("take (((((1=1)))));", 8);
        faultAt("take (((  (1=1))));", 10);
        faultAt("take ((((", 8);
        faultAt("take (((1=1 and (1=1))));", 16);
        faultAt("take not(not(not(not(1=1))));", 20);
        faultAt("take (1=1 or (1=1 or (1=1 or (1=1))));", 29);
        faultAt("take (((1=1)or((1=1))));", 15);
        readIs("take (1=1)or(1=1)or(1=1)or(1=1)or(1=1);", 1);
        readIs("take (((1=1)and(1=1))and((1=1)));", 1);
        readIs("take (((1=1)))and(((1=1)));", 1);
        readIs("take (((1=1)));turn (((1=1)));", 2);
        faultAt("take (((1=1)));turn ((((1=1))));", 23);
        faultAt("take (((1=1))));", 14);
        faultAt("take 1=1);", 8);
        faultAt("take (1=1;", 9);
        faultAt("take ((1=1);", 11);
        faultAt("take (((1=1))", 13);
        readIs("take (((1=1", -111);
        readIs("take (1=1);", 1);
    }

    private void lastBytes() {
        of("the place (from 0) of the first byte .. or the end: in 200 bytes");
        readIs("take " + "not ".repeat(47) + "1=1;" + " ".repeat(3), 1);
        readIs(" ".repeat(191) + "take 1=1;", 1);
        faultAt(" ".repeat(192) + "take 1=1", 200);
        faultAt("take 1=1" + " ".repeat(192), 200);
        faultAt("take 1=1;" + " ".repeat(190) + "x", 199);
        faultAt(" ".repeat(199) + "x", 199);
        faultAt(" ".repeat(196) + "take", 200);
        faultAt("take " + "not ".repeat(48) + "not", 200);
        faultAt("x" + " ".repeat(199), 0);
        String or = " or 1=1";
        readIs("take 1=1" + or.repeat(27) + ";", 1);
        faultAt("take 1=1" + or.repeat(27), 197);
        persons(1);
        String nots = "not ".repeat(46);
        readIs("take " + nots + "1=1;", 1);
        due("46 times not", x.takes(0), 1);
        readIs("take not " + nots + "1=1;", 1);
        due("47 times not", x.takes(0), 0);
    }

    // ---- what texts tell of persons

    private void values() {
        counts();
        withoutBest();
        agesAndSeen();
        shares();
        signs();
    }

    private void valueIs(String value, int person, int want) {
        String cond = value + "=" + want + " and not " + value + "<" + want + " and not " + value + ">" + want;
        due("<" + cond + ">", x.readText("take " + cond + ";"), 1);
        due(value + " of " + person, x.takes(person), 1);
    }

    private void counts() {
        of("papers: how many it has; stands: how many of these STAND; .. wrong: PAPERS whose SPAN doesn't have BEST");
        x.person(0, 0, 0);
        x.person(5, 0, 0);
        for (String value : new String[] {"papers", "stands", "wrong"}) valueIs(value, 0, 0);
        valueIs("house", 0, 0);
        valueIs("house", 1, 5);
        for (int i = 0; i < 6; i++) {
            x.paper(1, ONCE, 10, 20, 50, 0);
            valueIs("papers", 1, i + 1);
            valueIs("stands", 1, i + 1);
            valueIs("wrong", 1, i + 1);
        }
        valueIs("papers", 0, 0);
        x.rest(0, 1);
        x.rest(1, 0);
        valueIs("stands", 1, 4);
        for (int i = 2; i < 6; i++) x.rest(i, 0);
        valueIs("stands", 1, 0);
        valueIs("papers", 1, 6);
        x.correct(0, 0);
        due("the best", x.best(1), 0);
        valueIs("wrong", 1, 5);
        for (int i = 1; i < 6; i++) x.correct(i, 0);
        valueIs("wrong", 1, 0);
    }

    private void withoutBest() {
        of("age: AGE (0 without BEST) .. wrong: (0 without) .. share N: (0 if ALL is 0)");
        x.person(3, 0, 0);
        x.paper(0, ONCE, 40, 20, 50, 0);
        x.paper(0, ONCE, 40, 30, 10, 0);
        valueIs("age", 0, 10);
        valueIs("wrong", 0, 1);
        valueIs("share 0", 0, 100);
        x.paper(0, ONCE, 40, 41, 0, 0);
        due("none", x.best(0), NONE);
        String[] zero = {"age", "wrong", "share 0", "share 1", "share 40", "share 999"};
        for (String value : zero) valueIs(value, 0, 0);
        valueIs("seen", 0, 40);
        valueIs("papers", 0, 3);
        valueIs("house", 0, 3);
    }

    private void agesAndSeen() {
        of("age: AGE; seen: SEEN");
        onePaper(ONCE, 160, 0, 0);
        valueIs("age", 0, 160);
        valueIs("seen", 0, 160);
        x.correct(0, 160);
        valueIs("age", 0, 0);
        valueIs("seen", 0, 160);
        x.correct(0, 159);
        valueIs("age", 0, 1);
        onePaper(GAIN, 160, 0, 0);
        valueIs("age", 0, 0);
        valueIs("seen", 0, 0);
    }

    private void shares() {
        of("share N: SHARE of age N in hundredths, cut");
        onePaper(ONCE, 2, 160, 50);
        valueIs("share 0", 0, 100);
        valueIs("share 1", 0, 66);
        valueIs("share 2", 0, 33);
        valueIs("share 3", 0, 0);
        valueIs("share 160", 0, 0);
        valueIs("share 161", 0, 0);
        valueIs("share 999", 0, 0);
        onePaper(ONCE, 160, 0, 50);
        valueIs("share 160", 0, 0);
        valueIs("share 159", 0, 1);
        valueIs("share 158", 0, 1);
        valueIs("share 157", 0, 2);
        valueIs("share 1", 0, 99);
        valueIs("share 0", 0, 100);
        fresh();
        persons(1);
        for (int i = 0; i < 6; i++) x.paper(0, SPOKEN, 160, 160, 0, 0);
        valueIs("share 5", 0, 100);
        valueIs("share 6", 0, 99);
        valueIs("share 83", 0, 50);
        valueIs("share 160", 0, 0);
        fresh();
        persons(1);
        x.lifeOf(1);
        due("ALL is 1", x.all(0), 1);
        valueIs("share 0", 0, 100);
        valueIs("share 1", 0, 0);
    }

    private void signs() {
        of("SIGN: < | = | >");
        persons(1);
        int[][] pairs = {{1, 2}, {2, 2}, {3, 2}, {0, 999}, {999, 0}, {999, 999}, {0, 0}};
        for (int[] p : pairs) {
            readIs("take " + p[0] + "<" + p[1] + ";", 1);
            due("below", x.takes(0), p[0] < p[1] ? 1 : 0);
            readIs("take " + p[0] + "=" + p[1] + ";", 1);
            due("the same", x.takes(0), p[0] == p[1] ? 1 : 0);
            readIs("take " + p[0] + ">" + p[1] + ";", 1);
            due("above", x.takes(0), p[0] > p[1] ? 1 : 0);
        }
        of("COND: ALL { or ALL }   ALL: ONE { and ONE }   ONE: { not } ..");
        persons(1);
        for (int bits = 0; bits < 8; bits++) {
            boolean a = (bits & 1) != 0;
            boolean b = (bits & 2) != 0;
            boolean c = (bits & 4) != 0;
            String of = "(" + is(a) + ")(" + is(b) + ")(" + is(c) + ")";
            due(of, holds(is(a) + " or " + is(b) + " and " + is(c)), a || b && c ? 1 : 0);
            due(of, holds(is(a) + " and " + is(b) + " or " + is(c)), a && b || c ? 1 : 0);
            due(of, holds("(" + is(a) + " or " + is(b) + ") and " + is(c)), (a || b) && c ? 1 : 0);
            due(of, holds(is(a) + " and (" + is(b) + " or " + is(c) + ")"), a && (b || c) ? 1 : 0);
            due(of, holds("not " + is(a) + " and " + is(b) + " or not " + is(c)), !a && b || !c ? 1 : 0);
            due(of, holds("not (" + is(a) + " and " + is(b) + ") and not not " + is(c)), !(a && b) && c ? 1 : 0);
        }
    }

    private static String is(boolean so) {
        return so ? "1=1" : "1=2";
    }

    private int holds(String cond) {
        if (x.calls() > Counted.MOST - 40) {
            fresh();
            persons(1);
        }
        x.readText("take " + cond + ";");
        return x.takes(0);
    }

    // ---- judging

    private void judging() {
        firstClause();
        truths();
        errs();
    }

    private void firstClause() {
        of("A PERSON is TAKEN, if the first CLAUSE whose COND holds for it is a take; else (also without one) TURNED");
        persons(1);
        due("no way", x.takes(0), 0);
        due("no way's clause", x.clause(0), NONE);
        for (int first = 0; first <= 6; first++) {
            for (int take = 0; take < 2; take++) {
                StringBuilder text = new StringBuilder();
                for (int i = 0; i < 6; i++) {
                    boolean isTake = i == first == (take == 1);
                    text.append(isTake ? "take " : "turn ").append(is(i >= first)).append(";");
                }
                readIs(text.toString(), 6);
                if (x.many(0) == 0) persons(1);
                due("clause", x.clause(0), first == 6 ? NONE : first);
                due("taken", x.takes(0), first == 6 ? 0 : take);
            }
        }
        due("no such person", x.takes(1), BAD);
        due("no such person's clause", x.clause(1), BAD);
        fresh();
        persons(9);
        x.person(1, 0, 0);
        x.readText("turn 1=2 or 1=1 and 1=2;turn 1=2;turn 2=1;turn 2=1;take house=1;take 1=2;");
        for (int p = 0; p < 10; p++) x.truth(p, 0);
        while (x.calls() < 510) {
            due("as ahead, taken", x.errs(1, 0), 1);
            due("as ahead, turned away", x.errs(0, 1), 9);
        }
    }

    private void truths() {
        of("TRUE (-1: not told any more)");
        persons(10);
        for (int p = 0; p < 10; p++) due("at first", x.personOf(p, 5), NOT_TOLD);
        for (int year : new int[] {0, 1, 159, 160}) {
            due("told " + year, x.truth(9, year), 1);
            due("it is", x.personOf(9, 5), year);
        }
        for (int year : new int[] {161, -2, -9, MIN, MAX}) due("told " + year, x.truth(9, year), BAD);
        due("it stays", x.personOf(9, 5), 160);
        due("not any more", x.truth(9, -1), 1);
        due("it isn't", x.personOf(9, 5), NOT_TOLD);
        due("once more not", x.truth(9, -1), 1);
        due("no eleventh", x.truth(10, 5), BAD);
        due("another one's", x.personOf(8, 5), NOT_TOLD);
    }

    /** Errs of one PERSON with SEEN and TRUE, by a way that takes it or turns it away. */
    private void errsAre(int seen, int truth, boolean take, int age, int taken, int turned) {
        onePaper(ONCE, seen, 0, 50);
        persons(2);
        x.truth(0, truth);
        if (take) x.readText("take 1=1;");
        String of = "SEEN " + seen + " TRUE " + truth + " age " + age + (take ? " taken" : " turned away");
        due(of + ", below", x.errs(age, 0), taken);
        due(of + ", not below", x.errs(age, 1), turned);
    }

    private void errs() {
        of("TAKEN though SEEN less TRUE is below n; .. TURNED away though it isn't");
        int[][] notBelow = {{90, 10, 80}, {90, 10, 0}, {160, 0, 160}, {50, 50, 0}, {0, 0, 0}, {160, 160, 0}, {120, 1, 119}};
        for (int[] n : notBelow) {
            errsAre(n[0], n[1], true, n[2], 0, 0);
            errsAre(n[0], n[1], false, n[2], 0, 1);
        }
        int[][] below = {{90, 10, 81}, {90, 10, 160}, {159, 0, 160}, {50, 50, 1}, {49, 50, 0}, {0, 160, 0}, {0, 0, 1}};
        for (int[] n : below) {
            errsAre(n[0], n[1], true, n[2], 1, 0);
            errsAre(n[0], n[1], false, n[2], 0, 0);
        }
        of("of PERSONS whose TRUE is told");
        persons(10);
        due("none is told", x.errs(0, 1), 0);
        for (int p = 0; p < 10; p++) {
            x.truth(p, 0);
            due("told of " + (p + 1), x.errs(0, 1), p + 1);
            due("none taken", x.errs(1, 0), 0);
        }
        x.readText("take 1=1;");
        due("all taken", x.errs(1, 0), 10);
        due("all taken, not below", x.errs(0, 0), 0);
        for (int p = 0; p < 10; p++) {
            x.truth(p, -1);
            due("told of " + (9 - p), x.errs(160, 0), 9 - p);
        }
    }
}
