/** Edges of sheets, shelves, acts and of what is kept: term 7, promises 38 to 48. */
public final class HostEdgeTests extends Edge {
    public static void main(String[] args) {
        HostEdgeTests tests = new HostEdgeTests();
        tests.sheets();
        tests.registers();
        tests.shelves();
        tests.acts();
        tests.kept();
        tests.many();
        tests.checks.end("HostEdgeTests");
    }

    // ---- sheets

    private void sheets() {
        sizes();
        missing();
        narrowed();
        sorts();
    }

    private void sizes() {
        of("rows of bytes (sort 0), shorts (1), ints (2) or longs (3), 40 at most .. all 0 .. -14");
        for (int sort = 0; sort < 4; sort++) {
            for (int n : new int[] {0, 1, 39, 40}) {
                fresh();
                due("sort " + sort + " of " + n, x.sheet(sort, sort, n), 1);
                for (int i = 0; i < n; i++) due("item " + i, x.item(sort, sort, i), 0);
                if (n > 0) due("put in the last", x.put(sort, n - 1, 7), 1);
                if (n > 0) due("the last", x.item(sort, sort, n - 1), 7);
                for (int i : new int[] {-1, n, MIN, MAX}) {
                    due("item " + i, x.item(sort, sort, i), OUTSIDE);
                    due("put " + i, x.put(sort, i, 7), OUTSIDE);
                }
                for (int bad : new int[] {41, MAX}) due("n " + bad, x.sheet(sort, sort, bad), BAD);
                for (int below : new int[] {-1, MIN}) due("n " + below, x.sheet(sort, sort, below), BELOW_0);
                if (n > 0) due("it stays", x.item(sort, sort, n - 1), 7);
                due("anew", x.sheet(sort, sort, n), 1);
                if (n > 0) due("all 0", x.item(sort, sort, n - 1), 0);
            }
            x.sheet(sort, sort, 1);
            due("no more a second", x.item(sort, sort, 1), OUTSIDE);
            due("nor one of another sort", x.item(sort, (sort + 1) % 4, 0), OTHER_SORT);
        }
        for (int sheet : new int[] {-1, 4, MIN, MAX}) {
            due("sheet " + sheet, x.sheet(sheet, 0, 1), BAD);
            due("missing sheet " + sheet, x.sheet(sheet, -1, 1), BAD);
            due("bad ahead of -14", x.sheet(sheet, 0, -1), BAD);
        }
        for (int sort : new int[] {-2, 4, MIN, MAX}) {
            due("sort " + sort, x.sheet(0, sort, 1), BAD);
            due("bad sort ahead of -14", x.sheet(0, sort, -1), BAD);
        }
    }

    private void missing() {
        of("or missing (sort -1; n counts nothing then)");
        for (int n : new int[] {0, 1, 40, 41, -1, MIN, MAX}) {
            fresh();
            for (int sheet = 0; sheet < 4; sheet++) {
                due("missing at first", x.item(sheet, 0, 0), NOTHING_THERE);
                x.sheet(sheet, sheet, 5);
                due("no more", x.item(sheet, sheet, 0), 0);
                due("missing, n " + n, x.sheet(sheet, -1, n), 1);
                for (int i : new int[] {0, 5, -1, MIN, MAX}) {
                    due("item " + i + " of it", x.item(sheet, sheet, i), NOTHING_THERE);
                    due("put " + i + " in it", x.put(sheet, i, 7), NOTHING_THERE);
                }
                due("life of it", x.life(sheet), NOTHING_THERE);
                due("bad sort ahead of that", x.item(sheet, 4, 0), BAD);
            }
        }
    }

    private void narrowed() {
        of("Item i becomes v, narrowed to its sort");
        int[] v = {0, 1, -1, 127, 128, -128, -129, 255, 256, 32767, 32768, -32768, -32769, 65535, 65536, MIN, MAX,
            -9, -11, -12, -13};
        int[] asByte = {0, 1, -1, 127, -128, -128, 127, -1, 0, -1, 0, 0, -1, -1, 0, 0, -1, -9, -11, -12, -13};
        int[] asShort = {0, 1, -1, 127, 128, -128, -129, 255, 256, 32767, -32768, -32768, 32767, -1, 0, 0, -1, -9, -11,
            -12, -13};
        for (int sort = 0; sort < 4; sort++) x.sheet(sort, sort, 3);
        for (int i = 0; i < v.length; i++) {
            int[] want = {asByte[i], asShort[i], v[i], v[i]};
            for (int sort = 0; sort < 4; sort++) {
                due("put", x.put(sort, 1, v[i]), 1);
                due(v[i] + " of sort " + sort, x.item(sort, sort, 1), want[sort]);
            }
        }
        for (int sort = 0; sort < 4; sort++) {
            due("ahead of it", x.item(sort, sort, 0), 0);
            due("behind it", x.item(sort, sort, 2), 0);
        }
    }

    private void sorts() {
        of("Item i, taken for a sort. BAD: no such SHEET, sort; -13; -11; -12");
        for (int sort = 0; sort < 4; sort++) x.sheet(sort, sort, 2);
        for (int sheet = 0; sheet < 4; sheet++) {
            for (int sort = 0; sort < 4; sort++) {
                due("inside", x.item(sheet, sort, 1), sort == sheet ? 0 : OTHER_SORT);
                due("outside", x.item(sheet, sort, 2), sort == sheet ? OUTSIDE : OTHER_SORT);
                due("outside below", x.item(sheet, sort, -1), sort == sheet ? OUTSIDE : OTHER_SORT);
            }
            for (int bad : new int[] {-1, 4, 10, MIN, MAX}) due("sort " + bad, x.item(sheet, bad, 0), BAD);
            due("life of sort " + sheet, x.life(sheet), sheet == 1 ? STATE : OTHER_SORT);
        }
    }

    // ---- registers

    private void bytes(int... numbers) {
        x.sheet(0, 0, numbers.length);
        for (int i = 0; i < numbers.length; i++) x.put(0, i, numbers[i]);
    }

    private void registers() {
        pairs();
        outside();
        leftOut();
        otherSheets();
    }

    private void pairs() {
        of("n (0 to 10) times two items from item i on: MADE, TELLS of COUNTS of a PERSON with WRONG 10");
        for (int n = 0; n <= 10; n++) {
            fresh();
            persons(2);
            x.sheet(0, 0, 20);
            for (int i = 0; i < 20; i++) x.put(0, i, i % 2 == 0 ? 100 + i : 40 + i);
            int came = Math.min(n, 6);
            due(n + " pairs", x.register(1, 0, 0, n), came);
            due("so many", x.many(1), came);
            for (int i = 0; i < came; i++) {
                int[] want = {1, COUNT, 100 + 2 * i, 41 + 2 * i, 10, NOT_TOLD};
                for (int what = 0; what < 6; what++) due("paper " + i, x.paperOf(i, what), want[what]);
            }
        }
        for (int n : new int[] {-1, 11, MIN, MAX}) due("n " + n, x.register(0, 0, 0, n), BAD);
        for (int person : new int[] {-1, 2, MIN, MAX}) due("person " + person, x.register(person, 0, 0, 1), BAD);
        for (int sheet : new int[] {-1, 4, MIN, MAX}) due("sheet " + sheet, x.register(0, sheet, 0, 1), BAD);
    }

    private void outside() {
        of("-12: what stood ahead came");
        int[][] calls = {{0, 3, 3, 3}, {0, 4, OUTSIDE, 3}, {0, 10, OUTSIDE, 3}, {1, 3, 3, 3}, {1, 4, OUTSIDE, 3},
            {5, 1, 1, 1}, {5, 2, OUTSIDE, 1}, {6, 1, OUTSIDE, 0}, {7, 1, OUTSIDE, 0}, {-1, 1, OUTSIDE, 0},
            {-2, 2, OUTSIDE, 0}, {MAX, 1, OUTSIDE, 0}, {MAX - 1, 2, OUTSIDE, 0}, {MIN, 1, OUTSIDE, 0},
            {MIN, 10, OUTSIDE, 0}, {7, 0, 0, 0}, {-1, 0, 0, 0}, {MAX, 0, 0, 0}, {MIN, 0, 0, 0}};
        for (int[] c : calls) {
            fresh();
            persons(1);
            bytes(60, 50, 61, 51, 62, 52, 63);
            due("from " + c[0] + " on, " + c[1], x.register(0, 0, c[0], c[1]), c[2]);
            due("came", x.many(1), c[3]);
        }
        fresh();
        persons(1);
        x.sheet(0, 0, 40);
        due("the last pair of forty", x.register(0, 0, 38, 1), 1);
        due("half a pair of forty", x.register(0, 0, 39, 1), OUTSIDE);
        due("ten to the end of forty", x.register(0, 0, 20, 10), 5);
        due("ten, one too far", x.register(0, 0, 21, 10), OUTSIDE);
        x.sheet(0, 0, 0);
        due("of no items", x.register(0, 0, 0, 1), OUTSIDE);
        due("none of no items", x.register(0, 0, 0, 0), 0);
    }

    private void leftOut() {
        of("such as can't be are left out");
        persons(1);
        bytes(-1, 50, 60, -1, -128, -128, 0, 0, 127, 127, 128, 0);
        due("six pairs", x.register(0, 0, 0, 6), 2);
        due("the least", x.paperOf(0, 2) + x.paperOf(0, 3), 0);
        due("the greatest", x.paperOf(1, 2) + x.paperOf(1, 3), 254);
        due("no more", x.many(1), 2);
        due("left out, and the end", x.register(0, 0, 0, 7), OUTSIDE);
        due("two more came", x.many(1), 4);
        due("up to six of one", x.register(0, 0, 0, 6), 2);
        due("the seventh", x.register(0, 0, 6, 2), 0);
        due("the seventh, and the end", x.register(0, 0, 8, 3), OUTSIDE);
        due("six", x.many(1), 6);
        fresh();
        persons(6);
        for (int i = 0; i < 28; i++) x.paper(i % 5, ONCE, 1, 1, 1, 0);
        bytes(1, 1, 2, 2, 3, 3, 4, 4);
        due("up to thirty", x.register(5, 0, 0, 4), 2);
        due("the thirty-first", x.register(5, 0, 0, 4), 0);
        due("thirty", x.many(1), 30);
        due("the thirtieth", x.paperOf(29, 2), 2);
    }

    private void otherSheets() {
        of("BAD: no such SHEET, PERSON, n; -13; -11; -12");
        persons(1);
        for (int sort = 1; sort < 4; sort++) x.sheet(sort, sort, 4);
        for (int i : new int[] {0, 4, -1, MAX}) {
            for (int n = 0; n <= 10; n += 5) {
                for (int sort = 1; sort < 4; sort++) due("sort " + sort, x.register(0, sort, i, n), OTHER_SORT);
                due("missing", x.register(0, 0, i, n), NOTHING_THERE);
                due("no such person ahead of that", x.register(1, 0, i, n), BAD);
                due("no such person ahead of -13", x.register(1, 1, i, n), BAD);
            }
            due("no such n ahead of that", x.register(0, 0, i, 11), BAD);
            due("no such n ahead of -13", x.register(0, 1, i, -1), BAD);
        }
        due("none came", x.many(1), 0);
    }

    // ---- shelves

    private void shelves() {
        nothingAtFirst();
        whatShelvesHold();
        rowsOnShelves();
        takenAsKinds();
        noMore();
    }

    private void nothingAtFirst() {
        of("SHELVES 0 to 3 hold .. nothing (at first)");
        for (int shelf = -1; shelf <= 4; shelf++) {
            boolean is = shelf >= 0 && shelf < 4;
            for (int as = -1; as <= 14; as++) {
                boolean isAs = as >= 0 && as <= 8 || as >= 10 && as <= 13;
                due("shelf " + shelf + " as " + as, x.taken(shelf, as), is && isAs ? NOTHING_THERE : BAD);
            }
            due("an act", x.act(shelf, 0, 5), 0);
        }
        for (int n : new int[] {MIN, MAX}) {
            due("shelf " + n, x.taken(n, 0), BAD);
            due("as " + n, x.taken(0, n), BAD);
        }
    }

    private void whatShelvesHold() {
        of("BAD: no such SHELF, what, thing");
        onePaper(ONCE, 50, 20, 10);
        for (int shelf : new int[] {-1, 4, MIN, MAX}) {
            for (int what = 0; what < 4; what++) due("shelf " + shelf, x.shelf(shelf, what, 0), BAD);
        }
        for (int what : new int[] {-1, 4, MIN, MAX}) due("what " + what, x.shelf(0, what, 0), BAD);
        for (int n : new int[] {-1, 1, MIN, MAX}) {
            due("paper " + n, x.shelf(0, 0, n), BAD);
            due("person " + n, x.shelf(0, 1, n), BAD);
        }
        for (int n : new int[] {-1, 4, MIN, MAX}) due("sheet " + n, x.shelf(0, 2, n), BAD);
        due("still nothing", x.taken(0, 0), NOTHING_THERE);
        x.sheet(3, 3, 0);
        for (int shelf = 0; shelf < 4; shelf++) {
            due("a paper", x.shelf(shelf, 0, 0), 1);
            due("it", x.taken(shelf, 1), 0);
            due("no such paper", x.shelf(shelf, 0, 1), BAD);
            due("it stays", x.taken(shelf, 0), 0);
            due("a person", x.shelf(shelf, 1, 0), 1);
            due("it", x.taken(shelf, 8), 0);
            due("a row of no items", x.shelf(shelf, 2, 3), 1);
            due("it", x.taken(shelf, 13), 0);
            due("a missing one", x.shelf(shelf, 2, 0), 1);
            due("nothing", x.taken(shelf, 13), NOTHING_THERE);
            due("a paper again", x.shelf(shelf, 0, 0), 1);
            for (int n : new int[] {0, -1, 4, MIN, MAX}) due("nothing, n counts nothing", x.shelf(shelf, 3, n), 1);
            due("nothing", x.taken(shelf, 0), NOTHING_THERE);
        }
        fresh();
        persons(10);
        for (int i = 0; i < 30; i++) x.paper(i % 10, ONCE, 50, 20, 10, 0);
        due("the last paper", x.shelf(0, 0, 29), 1);
        due("it", x.taken(0, 0), 29);
        due("none behind it", x.shelf(0, 0, 30), BAD);
        due("the last person", x.shelf(1, 1, 9), 1);
        due("it", x.taken(1, 8), 9);
        due("none behind it", x.shelf(1, 1, 10), BAD);
    }

    private void rowsOnShelves() {
        of("for a row of sort as - 10 (as 10 to 13): how many items");
        for (int sheet = 0; sheet < 4; sheet++) {
            for (int sort = 0; sort < 4; sort++) {
                for (int n : new int[] {0, 1, 40}) rowIs(sheet, sort, n);
            }
            x.sheet(sheet, -1, 0);
            due("its row stays", x.taken(3, 13), 40);
        }
    }

    private void rowIs(int sheet, int sort, int n) {
        if (x.calls() > Counted.MOST - 20) fresh();
        x.sheet(sheet, sort, n);
        due("on the shelf", x.shelf(3, 2, sheet), 1);
        for (int as = 0; as <= 13; as++) {
            if (as != 9) due("sort " + sort + " as " + as, x.taken(3, as), as == 10 + sort ? n : OTHER_SORT);
        }
        due("no act", x.act(3, 0, 5), 0);
    }

    private void takenAsKinds() {
        of("for a thing of kind as (0 to 8, or one under it): its number");
        persons(2);
        for (int kind = 1; kind <= 7; kind++) x.paper(kind / 7, kind, 50, 20, 10, 0);
        String[] under = {"", "01", "02", "03", "014", "025", "036", "0257"};
        for (int kind = 1; kind <= 7; kind++) {
            x.shelf(0, 0, kind - 1);
            for (int as = 0; as <= 13; as++) {
                boolean is = as <= 8 && under[kind].indexOf('0' + as) >= 0;
                if (as != 9) due("kind " + kind + " as " + as, x.taken(0, as), is ? kind - 1 : OTHER_SORT);
            }
        }
        x.shelf(0, 1, 1);
        for (int as = 0; as <= 13; as++) {
            if (as != 9) due("a person as " + as, x.taken(0, as), as == 8 ? 1 : OTHER_SORT);
        }
        for (int as : new int[] {-1, 9, 14, 10 + MAX, MIN, MAX}) due("as " + as, x.taken(0, as), BAD);
    }

    private void noMore() {
        of("nothing (.. also if there is no such PAPER, PERSON any more)");
        onePaper(ONCE, 50, 20, 10);
        x.keep();
        persons(1);
        x.paper(1, LATE, 50, 20, 10, 0);
        for (int i = 0; i < 2; i++) {
            x.shelf(i, 0, i);
            x.shelf(2 + i, 1, i);
        }
        for (int shelf = 0; shelf < 4; shelf++) due("it is there", x.taken(shelf, shelf / 2 * 8), shelf % 2);
        x.again();
        for (int shelf = 0; shelf < 4; shelf++) {
            boolean is = shelf % 2 == 0;
            due("shelf " + shelf, x.taken(shelf, shelf / 2 * 8), is ? 0 : NOTHING_THERE);
            due("its act", x.act(shelf, 0, 5), is ? shelf == 0 ? 25 : 45 : 0);
            due("its trace", x.many(9), is ? 1 : 0);
            due("no such any more", x.shelf(shelf, shelf / 2, 1), BAD);
        }
    }

    // ---- acts

    private void acts() {
        wraps();
        wrapsOfOne();
        partedBy0();
        asItIsNow();
        noActs();
    }

    private void allKinds() {
        fresh();
        persons(2);
        int[] tells = {160, 0, 160, 160, 160, 0, 160};
        for (int i = 0; i < 7; i++) x.paper(i / 6, 1 + i, 160, tells[i], 10, 0);
    }

    // By thing, number x and act: worked out apart from the program and the model.
    private static final int[][][] ACTS = {
        {{-2147483488, 320, -13421772, 320}, {159, 318, 0, 318}, {-2147483489, 318, 13421772, 318},
            {536871072, 1073742144, 3355443, 1073742144}, {1073741984, -2147483328, 6710886, -2147483328}},
        {{2147483647, -2, -2147483648, -1}, {-2, -4, 1, -3}, {2147483646, -4, -2147483647, -3},
            {536870911, 1073741822, -536870912, 1073741823}, {1073741823, 2147483646, -1073741824, 2147483647}},
        {{-2147483488, 482, -13591668, 480}, {159, 480, 0, 482}, {-2147483489, 480, 13591668, 482},
            {536871072, 1073742306, 3397917, 1073742304}, {1073741984, -2147483166, 6795834, -2147483168}},
        {{-2147483488, 320, -13678239, 969}, {159, 318, 0, 951}, {-2147483489, 318, 13678239, 951},
            {536871072, 1073742144, 3419559, -1073740855}, {1073741984, -2147483328, 6839119, -2147482679}},
        {{-2147483585, 126, -13765920, 122}, {62, 124, 0, 120}, {-2147483586, 124, -13765920, 120},
            {536870975, 1073741950, 3441480, 1073741946}, {1073741887, -2147483522, 6882960, -2147483526}},
        {{-2147483648, -5, 429496729, -3}, {-1, -3, 0, -9}, {2147483647, -3, -429496729, -9},
            {536870912, -1073741829, -107374182, -1073741827}, {1073741824, 2147483643, -214748364, 2147483645}},
        {{-2147483333, 630, -13944699, 624}, {310, 620, 0, 618}, {-2147483338, 620, -13944699, 618},
            {-1610612421, 1073742454, 3486174, 1073742448}, {1073742139, -2147483018, 6972349, -2147483024}},
        {{-2147483488, -2147483647, 0, 161}, {161, 0, 160, 161}, {-2147483487, -2147483648, 160, 161},
            {-536870752, 536870913, 0, 161}, {-1073741664, 1073741825, 0, 161}}};

    // What runs, left first, by kind and act.
    private static final int[][][] BODIES = {
        {{10}, {11, 10}, {12}, {13, 11, 10}},
        {{20, 10}, {11, 20, 10}, {12}, {13, 11, 20, 10}},
        {{10}, {30, 11, 10, 10}, {12}, {13, 30, 11, 10, 10}},
        {{10}, {11, 10}, {12}, {40, 13, 11, 10}},
        {{50, 20, 10}, {11, 50, 20, 10}, {51, 12}, {13, 11, 50, 20, 10}},
        {{10}, {60, 30, 11, 10, 10}, {12}, {61, 13, 60, 30, 11, 10, 10, 12}},
        {{70, 50, 20, 10}, {11, 70, 50, 20, 10}, {51, 12}, {13, 11, 70, 50, 20, 10}},
        {{80}, {81}, {82}, {83, 80, 81}}};

    private void traceIs(int... bodies) {
        due("bodies", x.many(9), bodies.length);
        for (int i = 0; i < bodies.length; i++) due("body " + i, x.trace(i), bodies[i]);
        for (int i : new int[] {-1, bodies.length, 30, MIN, MAX}) due("body " + i, x.trace(i), NONE);
    }

    private void wraps() {
        of("with a number x (ints that wrap) .. numbers of the bodies that ran .., as they began (left first)");
        int[] numbers = {MIN, -1, MAX, 1 << 29, 1 << 30};
        for (int thing = 0; thing < 8; thing++) {
            for (int i = 0; i < numbers.length; i++) {
                allKinds();
                x.shelf(i % 4, thing / 7, thing == 7 ? 1 : thing);
                for (int act = 0; act < 4; act++) {
                    String call = "thing " + thing + ", act " + act + " with " + numbers[i];
                    due(call, x.act(i % 4, act, numbers[i]), ACTS[thing][i][act]);
                    traceIs(BODIES[thing][act]);
                }
            }
        }
    }

    private void wrapsOfOne() {
        of("60 leans: 0 - super.leans(x); 12 fits: x by (a - n), the rest away");
        onePaper(GAIN, 50, 0, 10);
        x.shelf(0, 0, 0);
        due("0 less the least int", x.act(0, 1, 1 << 30), MIN);
        due("tells by 0, too", x.act(0, 3, 1 << 30), PARTED);
        for (int tells : new int[] {1, 2, 7, 160}) {
            x.correct(0, tells);
            for (int n : new int[] {-161, -160, -8, -7, -2, -1, 0, 1, 2, 6, 7, 8, 159, 160, MIN, MAX}) {
                due(n + " by " + tells, x.act(0, 2, n), n / tells);
            }
        }
        persons(1);
        x.paper(1, ONCE, 50, 0, 10, 0);
        x.shelf(1, 0, 1);
        for (int n : new int[] {MIN, MIN + 1, -1, 0, 1, MAX}) due(n + " by -1", x.act(1, 2, n), -n);
    }

    private void partedBy0() {
        of("-15 if these are the same; that is all that act() answers then");
        for (int kind = 1; kind <= 7; kind++) {
            fresh();
            persons(2);
            for (int i = 0; i < 5; i++) x.paper(0, ONCE, 50, i, 10, 0);
            x.paper(1, kind, 50, 5, 10, 0);
            x.shelf(0, 0, 5);
            for (int n : new int[] {0, 1, -1, MIN, MAX}) {
                due("fits with " + n, x.act(0, 2, n), PARTED);
                traceIs(BODIES[kind - 1][2]);
                due("tells with " + n + " of kind " + kind, x.act(0, 3, n) == PARTED ? 1 : 0, kind == GAIN ? 1 : 0);
                traceIs(BODIES[kind - 1][3]);
            }
            x.act(0, 0, 7);
            traceIs(BODIES[kind - 1][0]);
            for (int tells : new int[] {4, 6}) {
                x.correct(5, tells);
                due("near it", x.act(0, 2, 0), kind == COPY || kind == SPOKEN ? tells - 5 : 0);
            }
        }
        fresh();
        persons(1);
        x.shelf(0, 1, 0);
        due("a person isn't parted", x.act(0, 2, 7), 0);
    }

    private void asItIsNow() {
        of("n: its number, a: TELLS (of a PERSON: SEEN) .. (as it is now)");
        onePaper(ONCE, 50, 20, 10);
        x.shelf(0, 0, 0);
        x.shelf(1, 1, 0);
        due("a paper", x.act(0, 0, 5), 25);
        due("a person", x.act(1, 0, 5), 45);
        x.correct(0, 160);
        due("corrected", x.act(0, 0, 5), 165);
        x.paper(0, GAIN, 160, 20, 10, 0);
        due("a gain isn't seen", x.act(1, 0, 5), 45);
        x.paper(0, LATE, 160, 20, 10, 0);
        due("seen later", x.act(1, 0, 5), 155);
        persons(1);
        x.shelf(1, 1, 1);
        due("without papers", x.act(1, 0, 5), -5);
    }

    private void noActs() {
        of("0, and no TRACE then: no such SHELF, act, nothing, a row");
        onePaper(SPOKEN, 50, 20, 10);
        x.sheet(0, 0, 5);
        x.shelf(0, 0, 0);
        x.shelf(1, 2, 0);
        int[][] none = {{-1, 0}, {4, 0}, {MIN, 0}, {MAX, 0}, {0, -1}, {0, 4}, {0, MIN}, {0, MAX}, {1, 0}, {1, 1},
            {1, 2}, {1, 3}, {2, 0}, {2, 3}, {3, 2}, {1, 4}, {-1, -1}};
        for (int[] n : none) {
            due("an act", x.act(0, 0, 5), 60);
            traceIs(70, 50, 20, 10);
            due("act " + n[1] + " of shelf " + n[0], x.act(n[0], n[1], 5), 0);
            traceIs();
        }
        due("it is there still", x.taken(0, 7), 0);
        due("the row, too", x.taken(1, 10), 5);
    }

    // ---- kept

    private void kept() {
        emptyKept();
        fullKept();
        latestKept();
        notKept();
    }

    private void fill() {
        for (int p = 0; p < 10; p++) due("person", x.person(5, p, 1), p);
        for (int i = 0; i < 30; i++) due("paper", x.paper(i / 6, ONCE, 50 + i, 20, 10, 0), i);
        for (int i = 0; i < 40; i++) due("rest", x.rest(i / 8, 10 + i % 8), i + 1);
        for (int i = 0; i < 20; i++) due("draw", x.draw(i % 10, 1, 160, 9), i);
        for (int i = 0; i < 8; i++) due("question", x.question(0, 60, 5), i);
        for (int i = 0; i < 8; i++) due("answer", x.answer(i, true), i + 1);
        due("way", x.readText("turn 1=1;".repeat(6)), 6);
        x.truth(0, 20);
    }

    private void isFull() {
        due("the eleventh person", x.person(0, 0, 0), FULL);
        due("the thirty-first paper", x.paper(9, ONCE, 50, 20, 10, 0), FULL);
        due("the forty-first rest", x.rest(20, 21), FULL);
        due("the twenty-first draw", x.draw(0, 1, 1, 1), FULL);
        due("the ninth question", x.question(0, 1, 1), FULL);
        for (int i = 0; i < 8; i++) due("answered", x.answer(i, false), STATE);
        due("told", x.rest(0, 10), STATE);
        int[] most = {10, 30, 6, 40, 20, 8, 8};
        for (int what = 0; what < most.length; what++) due("how many, " + what, x.many(what), most[what]);
    }

    private void isEmpty() {
        for (int what = 0; what < 7; what++) due("how many, " + what, x.many(what), 0);
        due("no person", x.personOf(0, 0), BAD);
        due("no paper", x.paperOf(0, 0), BAD);
        due("no question", x.answer(0, true), BAD);
        due("none stands", x.stands(), 0);
        due("no suspect", x.suspect(0), NONE);
    }

    private void emptyKept() {
        of("NONE: nothing is kept");
        due("again", x.again(), NONE);
        fill();
        due("again of something", x.again(), NONE);
        isFull();
        of("It becomes what was kept latest (which stays): nothing of anything");
        due("keep", x.keep(), 1);
        fill();
        isFull();
        due("again", x.again(), 1);
        isEmpty();
        fill();
        due("no rest of the first time", x.round(29), 0);
        due("again, once more", x.again(), 1);
        isEmpty();
        persons(1);
        x.paper(0, ONCE, 50, 20, 10, 0);
        due("rests on none", x.roots(0), 1);
        due("no truth is told", x.personOf(0, 5), NOT_TOLD);
        due("no answer", x.all(0), 9000 + 50 * 1000);
        due("no clause", x.clause(0), NONE);
        due("no draw", x.behind(0), 0);
    }

    private void fullKept() {
        of("It becomes what was kept latest (which stays): all there may be");
        fill();
        x.keep();
        x.correct(0, 99);
        x.truth(0, -1);
        x.truth(9, 160);
        x.read();
        x.lifeOf(0);
        due("again", x.again(), 1);
        isFull();
        due("as it told", x.paperOf(0, 3), 20);
        due("truth", x.personOf(0, 5), 20);
        due("no truth", x.personOf(9, 5), NOT_TOLD);
        due("life", x.weight(6, 0), 100);
        due("clause", x.clause(9), 0);
        x.correct(0, 98);
        due("again, once more", x.again(), 1);
        due("as it told", x.paperOf(0, 3), 20);
        isFull();
    }

    private void latestKept() {
        of("It becomes what was kept latest: one less than full");
        fresh();
        persons(9);
        for (int i = 0; i < 29; i++) x.paper(i / 6, ONCE, 50, 20, 10, 0);
        x.keep();
        for (int i = 0; i < 39; i++) x.rest(i / 8, 10 + i % 8);
        for (int i = 0; i < 19; i++) x.draw(0, 1, 160, 9);
        for (int i = 0; i < 7; i++) x.question(0, 60, 5);
        for (int i = 0; i < 6; i++) x.answer(i, true);
        x.keep();
        for (int i = 0; i < 2; i++) {
            due("the tenth person", x.person(0, 0, 0), 9);
            due("the eleventh", x.person(0, 0, 0), FULL);
            due("the thirtieth paper", x.paper(4, ONCE, 50, 20, 10, 0), 29);
            due("the thirty-first", x.paper(9, ONCE, 50, 20, 10, 0), FULL);
            due("the fortieth rest", x.rest(20, 21), 40);
            due("the forty-first", x.rest(21, 20), FULL);
            due("the twentieth draw", x.draw(0, 1, 1, 1), 19);
            due("the twenty-first", x.draw(0, 1, 1, 1), FULL);
            due("the eighth question", x.question(0, 1, 1), 7);
            due("the ninth", x.question(0, 1, 1), FULL);
            due("the seventh answer", x.answer(6, true), 7);
            due("the eighth answer", x.answer(7, true), 8);
            due("again", x.again(), 1);
            due("not answered", x.many(6), 6);
        }
        int[] want = {9, 29, 0, 39, 19, 7, 6};
        for (int what = 0; what < want.length; what++) due("how many, " + what, x.many(what), want[what]);
    }

    private void notKept() {
        of("All but THE TAPE, ROWS, SHEETS, SHELVES, THE TRACE is kept");
        onePaper(ONCE, 50, 20, 10);
        x.feedText("take 1=");
        x.prove(0);
        x.sheet(0, 1, 2);
        x.put(0, 1, 7);
        x.shelf(0, 0, 0);
        x.act(0, 0, 5);
        due("keep", x.keep(), 1);
        due("the tape goes on", x.feedText("1;"), 9);
        x.paper(0, ONCE, 50, 20, 10, 0);
        due("rows of now", x.prove(0), 3);
        x.put(0, 0, 8);
        x.sheet(2, 3, 40);
        x.shelf(1, 1, 0);
        x.act(0, 3, 5);
        due("again", x.again(), 1);
        due("the tape stays", x.many(8), 9);
        due("rows stay", x.many(7), 3);
        due("rows are judged", x.judge(), 3);
        due("an item stays", x.item(0, 1, 0), 8);
        due("another item stays", x.item(0, 1, 1), 7);
        due("a sheet stays", x.item(2, 3, 39), 0);
        due("a shelf stays", x.taken(1, 8), 0);
        traceIs(13, 11, 10);
        due("the tape is read", x.read(), 1);
        due("the way", x.many(2), 1);
        due("again once more", x.again(), 1);
        due("no way was kept", x.many(2), 0);
    }

    // ---- how many

    private void many() {
        of("How many: what = 0 .. 9. BAD: another what");
        for (int what = 0; what < 10; what++) due("what " + what, x.many(what), 0);
        for (int what : new int[] {-1, 10, MIN, MAX}) due("what " + what, x.many(what), BAD);
        fill();
        x.prove(0);
        x.feedText(" ".repeat(200));
        x.shelf(0, 0, 0);
        x.act(0, 3, 1);
        int[] most = {10, 30, 6, 40, 20, 8, 8, 7, 200, 3};
        for (int what = 0; what < 10; what++) due("what " + what, x.many(what), most[what]);
        for (int what : new int[] {-1, 10, MIN, MAX}) due("what " + what, x.many(what), BAD);
    }
}
