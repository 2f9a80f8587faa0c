/** Promises 25 to 34, and the terms' sentences on rows that are looked for. */
final class EdgesOfRows {
    private static final String TERMS = "Terms";
    private static final String FREE = "sort s begins ends;follow s s;";
    /** a, b and c set a mark each; z changes nothing. */
    private static final String SETTING = FREE + "mark l;mark m;mark n;word a;word b;word c;word z;"
        + "reads a s sets l;reads b s sets m;reads c s sets n;reads z s;";
    private static final String DOUBTFUL = "sort a begins ends;sort b begins ends;follow a a;follow a b;follow b a;follow b b;"
        + "mark m;word v;reads v a sets m;reads v b;";
    private static final String CHAIN = "sort a begins;sort b ends;follow a b;word x;word y;reads x a;reads y b;";
    private static final int[] FAR = {Integer.MIN_VALUE, -2, 33, 256, Integer.MAX_VALUE};

    private EdgesOfRows() {
    }

    static void run() {
        goalsOfMeanings();
        goalOfNoReading();
        goalOfAnything();
        shortest();
        firstOfLikeOnes();
        cheapestIs();
        cheapestOfLikeOnes();
        verseIs();
        sayableIs();
        linkIs();
        linkOfLikeOnes();
        lentIs();
        lentOfLikeOnes();
        find();
        findNone();
        findNotAsTold();
        cheapest();
        verse();
        longer();
        longerThanNone();
        foundAt();
        sayable();
        link();
        lend();
        other();
        mendIs();
        mendSizes();
        mendOfLikeOnes();
        mend();
    }

    private static int find(StruckWords x, int most, int... goals) {
        Check.tape(x, goals);
        return x.find(most);
    }

    private static int cheapest(StruckWords x, int most, int... goals) {
        Check.tape(x, goals);
        return x.cheapest(most);
    }

    private static int verse(StruckWords x, int k, int most, int... goals) {
        Check.tape(x, goals);
        return x.verse(k, most);
    }

    private static void goalsOfMeanings() {
        Edge.says(TERMS, "GOALS: for 0 (all) and each beginning one: 0 to 7: it MEANS just that;");
        StruckWords x = Check.tongue(SETTING);
        for (int m = 0; m < 8; m++) {
            int bits = Math.max(1, Integer.bitCount(m));
            Check.due("by 0 alone " + m, find(x, 6, m, 9, 9, 9), bits);
            Check.due("by each beginning " + m, find(x, 6, 9, m, m, m), 2 * bits);
        }
        Check.due("each its own", find(x, 6, 7, 6, 5, 3), 3);
        Check.dueFound(x, 0, 1, 2);
        Check.due("each its own, another way round", find(x, 6, 7, 3, 5, 6), 3);
        Check.dueFound(x, 2, 1, 0);
        StruckWords doubtful = Check.tongue(DOUBTFUL);
        Check.due("it means 0 and 1: not just 0", find(doubtful, 6, 0, 9, 9, 9), -1);
        Check.due("nor just 1", find(doubtful, 6, 1, 9, 9, 9), -1);
        StruckWords five = Check.tongue("edict 5 1;" + SETTING);
        Check.due("the last of five beginnings has a goal, too", find(five, 6, 1, 1, 1, 1, 1, 0), 5);
        Check.dueFound(five, 3, 3, 3, 3, 0);
    }

    private static void goalOfNoReading() {
        Edge.says(TERMS, "8: there is no READING;");
        StruckWords x = Check.tongue(SETTING);
        Check.due("all of it reads always", find(x, 6, 8, 9, 9, 9), -1);
        Check.due("nothing is left of one by 1", find(x, 6, 9, 8, 9, 9), 1);
        Check.due("something is left by 2", find(x, 6, 9, 9, 8, 9), -1);
        StruckWords chain = Check.tongue("sort a begins;sort b ends;follow a b;word x;word y;word o;reads x a;reads y b;");
        Check.due("x alone does not read", find(chain, 6, 8, 9, 9, 9), 1);
        Check.dueFound(chain, 0);
        Check.due("x y, but not struck", find(chain, 6, 0, 8, 8, 9), 2);
        Check.dueFound(chain, 0, 1);
        Check.due("struck by 2 alone", find(chain, 6, 8, 8, 0, 8), 3);
        Check.dueFound(chain, 0, 2, 1);
        StruckWords doubtful = Check.tongue(DOUBTFUL);
        Check.due("two meanings are a reading", find(doubtful, 6, 8, 9, 9, 9), -1);
    }

    private static void goalOfAnything() {
        Edge.says(TERMS, "9: anything.");
        StruckWords x = Check.tongue(DOUBTFUL);
        Check.due("two meanings, or none", find(x, 6, 9, 9, 9, 9), 1);
        Check.dueFound(x, 0);
        StruckWords none = Check.tongue("word x;word y;");
        Check.due("no reading at all", find(none, 6, 9, 9, 9, 9), 1);
        Check.dueFound(none, 0);
        Check.due("nor is one to be", find(none, 6, 8, 8, 8, 8), 1);
        Check.due("10 is no goal", find(x, 6, 9, 9, 9, 10), -2);
    }

    private static void shortest() {
        Edge.says(TERMS, "FOUND: the shortest row of SAYINGS (1 to most, 6 at most) with all GOALS,");
        StruckWords x = Check.tongue(SETTING);
        Check.due("one", find(x, 1, 9, 9, 9, 9), 1);
        Check.due("not one", find(x, 1, 9, 1, 1, 1), -1);
        Check.due("two", find(x, 2, 9, 1, 1, 1), 2);
        Check.due("not five", find(x, 5, 9, 7, 7, 7), -1);
        Check.due("six", find(x, 6, 9, 7, 7, 7), 6);
        Check.due("not seven", find(x, 7, 9, 7, 7, 7), -2);
        StruckWords first = Check.tongue(FREE + "mark m;word z;word x;reads z s;reads x s sets m;");
        // z x is the first, were the shortest not looked for.
        Check.due("a shorter one is ahead of a first one", find(first, 6, 1, 9, 9, 9), 1);
        Check.dueFound(first, 1);
    }

    private static void firstOfLikeOnes() {
        Edge.says(TERMS, "of like ones the first (SAYING by SAYING).");
        StruckWords x = Check.tongue(SETTING.replace("word a;word b;word c;word z;", "word z;word c;word b;word a;"));
        Check.due("l and m by 0", find(x, 6, 3, 9, 9, 9), 2);
        Check.dueFound(x, 2, 3);
        Check.due("by each beginning", find(x, 6, 9, 3, 3, 3), 4);
        Check.dueFound(x, 2, 2, 3, 3);
        Check.due("by 1 alone: the first is struck", find(x, 6, 9, 1, 9, 9), 2);
        Check.dueFound(x, 0, 3);
        Check.due("by 2 alone: the second is struck", find(x, 6, 9, 9, 1, 9), 1);
        Check.dueFound(x, 3);
    }

    private static void cheapestIs() {
        Edge.says(TERMS, "CHEAPEST (of 5 at most): the one with the least costs of SAYINGS together,");
        StruckWords x = Check.tongue(FREE + "mark m;word x costs 99;word t costs 0;word y costs 7;"
            + "reads x s sets m;reads t s turns m;reads y s sets m;");
        Check.due("t y", cheapest(x, 5, 9, 1, 1, 1), 7);
        Check.dueFound(x, 1, 2);
        Check.due("t", cheapest(x, 5, 1, 9, 9, 9), 0);
        Check.dueFound(x, 1);
        StruckWords dear = Check.tongue("edict 5 4;" + FREE + "mark m;word x costs 99;reads x s sets m;");
        Check.due("five of the dearest", cheapest(dear, 5, 9, 1, 1, 1, 1, 1), 495);
        Check.dueFound(dear, 0, 0, 0, 0, 0);
        Check.due("not in four", cheapest(dear, 4, 9, 1, 1, 1, 1, 1), -1);
        Check.due("six are too many", cheapest(dear, 6, 9, 1, 1, 1, 1, 1), -2);
        // By 3 it means another than by 0, so three are the least.
        StruckWords more = Check.tongue(FREE + "mark m;word x costs 50;word t costs 9;reads x s sets m;reads t s turns m;");
        Check.due("x x x is dearer", cheapest(more, 5, 1, 0, 0, 0), 27);
        Check.dueFound(more, 1, 1, 1);
    }

    private static void cheapestOfLikeOnes() {
        Edge.says(TERMS, "of like ones the shortest, then the first.");
        StruckWords x = Check.tongue("sort s begins;sort t ends;sort u begins ends;follow s t;mark m;"
            + "word y costs 3;word x costs 6;word v costs 6;reads y s;reads y t sets m;reads x u sets m;reads v u sets m;");
        Check.due("y y, x and v cost 6", cheapest(x, 5, 1, 9, 9, 9), 6);
        Check.dueFound(x, 1);
        StruckWords none = Check.tongue(FREE + "mark m;word z costs 0;word x costs 0;word v costs 0;"
            + "reads z s;reads x s sets m;reads v s sets m;");
        Check.due("nothing costs", cheapest(none, 5, 9, 1, 1, 1), 0);
        Check.dueFound(none, 1, 1);
        Check.due("by 1 alone", cheapest(none, 5, 9, 1, 9, 9), 0);
        Check.dueFound(none, 0, 1);
    }

    private static void verseIs() {
        Edge.says(TERMS, "VERSE: FOUND so that what is LEFT by each beginning (1 to N) has k beats.");
        StruckWords x = Check.tongue("edict 2 1;" + FREE + "word x beats 3;word y beats 2;word z;reads x s;reads y s;reads z s;");
        Check.due("two threes", verse(x, 3, 6, 9, 9, 9), 2);
        Check.dueFound(x, 0, 0);
        Check.due("four: by 1 the second, by 2 the first and third", verse(x, 4, 6, 9, 9, 9), 4);
        Check.dueFound(x, 0, 0, 2, 2);
        Check.due("nine", verse(x, 9, 6, 9, 9, 9), 6);
        Check.dueFound(x, 0, 0, 0, 0, 0, 0);
        Check.due("not in five", verse(x, 9, 5, 9, 9, 9), -1);
        Check.due("ten can't be", verse(x, 10, 6, 9, 9, 9), -1);
        StruckWords five = Check.tongue("edict 5 1;" + FREE + "word x beats 1;word y beats 0;reads x s;reads y s;");
        Check.due("four by each of five, though five by 0", verse(five, 4, 6, 9, 9, 9, 9, 9, 9), 5);
        Check.dueFound(five, 0, 0, 0, 0, 0);
        Check.due("by the last of five four of four would be left", verse(five, 4, 4, 9, 9, 9, 9, 9, 9), -1);
        Check.due("none by each of five", verse(five, 0, 6, 9, 0, 9, 9, 9, 9), 2);
        Check.dueFound(five, 1, 1);
        Check.due("goals hold, too", verse(five, 0, 6, 9, 8, 9, 9, 9, 9), 1);
        Check.dueFound(five, 1);
    }

    private static void sayableIs() {
        Edge.says(TERMS, "SAYABLE in so many: MEANINGS m for which there is a row with GOALS 9 and m for each beginning.");
        StruckWords x = Check.tongue(SETTING);
        int[] sayable = {0, 1 | 2 | 4 | 16, 1 | 2 | 4 | 16, 1 | 2 | 4 | 8 | 16 | 32 | 64, 1 | 2 | 4 | 8 | 16 | 32 | 64};
        for (int most = 1; most <= 5; most++) {
            Check.due("sayable(" + most + ")", x.sayable(most), sayable[most - 1]);
        }
        StruckWords turning = Check.tongue(FREE + "mark m;word t;reads t s turns m;");
        Check.due("t t t means another by 0", turning.sayable(3), 1);
        StruckWords doubtful = Check.tongue(DOUBTFUL);
        Check.due("two meanings always", doubtful.sayable(5), 0);
        Check.due("a row of one is found", find(x, 6, 9, 9, 9, 9), 1);
        Check.due("what was looked for ahead of it does not count", x.sayable(4), sayable[3]);
        // By 0 x x y y does not read, but by each beginning x y does.
        StruckWords struck = Check.tongue("edict 2 1;" + CHAIN);
        Check.due("by 0 anything", struck.sayable(4), 1);
        Check.due("a row of two is found", find(struck, 6, 0, 9, 9), 2);
        Check.due("by 0 anything", struck.sayable(4), 1);
        StruckWords last = Check.tongue("edict 5 4;" + SETTING);
        Check.due("in four nothing is left by 1", last.sayable(4), 0);
        Check.due("in five one is left", last.sayable(5), 1 | 2 | 4 | 16);
    }

    /** Without a 'follow': x, y and z set a mark each, w turns the first. */
    private static final String UNLINKED = "edict 2 1;sort a begins ends;sort b begins ends;sort c begins ends;"
        + "mark l;mark m;mark n;word x;word y;word z;word w;"
        + "reads x a sets l;reads y b sets m;reads z c sets n;reads w c turns l;";

    /** Always read in two ways. */
    private static final String LESS = "sort a begins ends;sort b begins ends;follow a a;follow b b;mark m;word w;"
        + "reads w a sets m;reads w b;";

    private static void linkIs() {
        Edge.says(TERMS, "LINK: one 'follow' more, not told, with which the most are SAYABLE in so many");
        StruckWords x = Check.tongue(UNLINKED);
        Check.due("as it is", x.sayable(4), 1 << 1 | 1 << 2 | 1 << 4);
        // a b is ahead, but lets l and m be said together alone; a c lets l and n, and none, be said.
        Check.due("a c", x.link(4), 2);
        Check.due("one more", Check.tongue(UNLINKED + "follow a b;").sayable(4), 1 << 1 | 1 << 2 | 1 << 4 | 1 << 3);
        Check.due("two more", Check.tongue(UNLINKED + "follow a c;").sayable(4), 1 << 1 | 1 << 2 | 1 << 4 | 1 << 5 | 1);
        Check.due("in three by 2 two follow one another, by 1 one is left", x.link(3), -1);
        Check.due("nothing of it stays", x.sayable(4), 1 << 1 | 1 << 2 | 1 << 4);
        StruckWords told = Check.tongue(UNLINKED + "follow a c;");
        Check.due("told already: another one then", told.link(4), 12);
        // Without a a, or b b, one meaning of two w's would be left; but a follow is told more, not less.
        StruckWords less = Check.tongue(LESS);
        Check.due("both meanings always", less.sayable(4), 0);
        Check.due("none is taken away", less.link(4), -1);
        Check.due("were it", Check.tongue(LESS.replace("follow a a;", "")).sayable(4), 1);
    }

    private static void linkOfLikeOnes() {
        Edge.says(TERMS, "(of like ones the first: SORT by SORT).");
        StruckWords x = Check.tongue("edict 2 1;sort a;sort b begins ends;sort c begins ends;mark m;mark n;word x;word y;"
            + "reads x b sets m;reads y c sets n;");
        Check.due("b c, ahead of c b", x.link(4), 12);
        StruckWords y = Check.tongue("edict 2 1;sort a begins ends;sort b begins ends;mark m;mark n;word x;word y;"
            + "reads x b sets m;reads y a sets n;");
        Check.due("a b, ahead of b a", y.link(4), 1);
        StruckWords z = Check.tongue("edict 2 1;sort a begins ends;sort b;mark m;mark n;word x;word y;"
            + "reads x a sets m;reads y a sets n;");
        Check.due("a a, the first of all", z.link(4), 0);
    }

    /** Two that begin and one that ends; v reads as none. */
    private static final String UNLENT = "edict 2 1;sort a begins;sort b ends;follow a b;mark l;mark m;mark n;"
        + "word y;word x;word z;word v;reads y b sets m;reads x a sets l;reads z a sets n;";

    private static void lentIs() {
        Edge.says(TERMS, "LENT: one 'reads' more, not told, without changes, likewise");
        StruckWords x = Check.tongue(UNLENT);
        Check.due("as it is", x.sayable(4), 1 << 3 | 1 << 6);
        Check.due("y a: one more", Check.tongue(UNLENT + "reads y a;").sayable(4), 1 << 3 | 1 << 6 | 1 << 2);
        Check.due("x b: two more", Check.tongue(UNLENT + "reads x b;").sayable(4), 1 << 3 | 1 << 6 | 1 << 1 | 1 << 4);
        Check.due("x b", x.lend(4), 11);
        Check.due("not in three", x.lend(3), -1);
        Check.due("nothing of it stays", x.becomes(1, 1, 0), -1);
        Check.due("nothing of it stays", x.sayable(4), 1 << 3 | 1 << 6);
        Check.due("none is taken away", Check.tongue(LESS).lend(4), -1);
        Check.due("were it", Check.tongue(LESS.replace("reads w a sets m;", "")).sayable(4), 1);
        StruckWords told = Check.tongue(UNLENT + "reads x b;reads z b;");
        Check.due("what is told is not lent: y a then", told.lend(4), 0);
    }

    private static void lentOfLikeOnes() {
        Edge.says(TERMS, "(SAYING by SAYING, SORT by SORT).");
        StruckWords x = Check.tongue("edict 2 1;sort a begins ends;sort b begins ends;mark m;word x;word v;word z;"
            + "reads x a sets m;");
        Check.due("v a, ahead of v b and z a", x.lend(4), 10);
        StruckWords y = Check.tongue("edict 2 1;sort a begins;sort b begins ends;sort c begins ends;mark m;word x;word v;word z;"
            + "reads x b sets m;");
        Check.due("v b, ahead of v c and z b", y.lend(4), 11);
    }

    private static void find() {
        Edge.says("Promise 25", "FOUND for the tape's bytes being GOALS (N and 1 of them): how many SAYINGS;");
        for (int n = 2; n <= 5; n++) {
            StruckWords x = Check.tongue("edict " + n + " 1;" + SETTING);
            int[] goals = new int[n + 1];
            java.util.Arrays.fill(goals, 1);
            Check.due("two by " + n, find(x, 6, goals), 2);
            Check.dueFound(x, 0, 0);
            goals[n] = 0;
            Check.due("the last goal of " + n, find(x, 6, goals), n);
            Check.due("its last", x.foundAt(n - 1), 0);
            goals[n] = 2;
            goals[0] = 3;
            // b would be struck by all beginnings but the last one: by just one it can be.
            Check.due("the first goal of " + n, find(x, 6, goals), n == 2 ? 2 : -1);
        }
    }

    private static void findNone() {
        Edge.says("Promise 25", "NONE: there is none in so many;");
        StruckWords x = Check.tongue(SETTING);
        Check.due("two are found", find(x, 2, 9, 1, 1, 1), 2);
        Check.due("none in one", find(x, 1, 9, 1, 1, 1), -1);
        Check.due("none in five", find(x, 5, 9, 7, 7, 7), -1);
        Check.due("none at all", find(x, 6, 1, 2, 9, 9), -1);
        Check.dueFound(x, 0, 0);
    }

    /** Tapes that are no GOALS for N 3, and such as are, for a call by its number. */
    private static void dueNotAsTold(StruckWords x, int call, int most) {
        int[][] tapes = {{}, {9}, {9, 9}, {9, 9, 9}, {9, 9, 9, 9, 9}, {10, 9, 9, 9}, {9, 9, 9, 10}, {9, 255, 9, 9},
            {9, 9, 128, 9}, new int[6], new int[25]};
        for (int[] tape : tapes) {
            Check.tape(x, tape);
            Check.due("goals that are none, " + tape.length, asked(x, call, 1, most), -2);
        }
        for (int no : new int[] {0, -1, most + 1, most + 2, Integer.MIN_VALUE, Integer.MAX_VALUE}) {
            Check.tape(x, 9, 9, 9, 9);
            Check.due("most " + no, asked(x, call, 1, no), -2);
        }
        StruckWords none = Check.tongue("sort s begins ends;");
        Check.tape(none, 9, 9, 9, 9);
        Check.due("no sayings", asked(none, call, 1, most), -2);
        StruckWords empty = new StruckWords();
        Check.tape(empty, 9, 9, 9, 9);
        Check.due("no tongue", asked(empty, call, 1, 1), -2);
    }

    private static int asked(StruckWords x, int call, int k, int most) {
        return call == 25 ? x.find(most) : call == 26 ? x.cheapest(most) : x.verse(k, most);
    }

    private static void findNotAsTold() {
        Edge.says("Promise 25", "-2: not as told (most 1 to 6), or no SAYINGS.");
        StruckWords x = Check.tongue(SETTING);
        Check.due("as told", find(x, 6, 9, 3, 9, 9), 3);
        dueNotAsTold(x, 25, 6);
        Check.dueFound(x, 0, 0, 1);
        for (int most = 1; most <= 6; most++) {
            Check.due("most " + most, find(x, most, 9, 9, 9, 9), 1);
        }
    }

    private static void cheapest() {
        Edge.says("Promise 26", "CHEAPEST likewise (most 1 to 5): its costs;");
        StruckWords x = Check.tongue(SETTING.replace("word a;", "word a costs 99;"));
        Check.due("two", cheapest(x, 5, 9, 1, 1, 1), 198);
        Check.dueFound(x, 0, 0);
        for (int most = 1; most <= 5; most++) {
            Check.due("most " + most, cheapest(x, most, 1, 9, 9, 9), 99);
        }
        Edge.says("Promise 26", "NONE: none;");
        Check.due("none in one", cheapest(x, 1, 9, 1, 1, 1), -1);
        Check.due("none in five", cheapest(x, 5, 9, 7, 7, 7), -1);
        Check.due("none at all", cheapest(x, 5, 8, 9, 9, 9), -1);
        Check.dueFound(x, 0);
        Edge.says("Promise 26", "-2: not as told, or no SAYINGS.");
        dueNotAsTold(x, 26, 5);
        Check.dueFound(x, 0);
    }

    private static void verse() {
        Edge.says("Promise 27", "VERSE likewise (k 0 to 54, most 1 to 6): how many SAYINGS;");
        StruckWords x = Check.tongue(FREE + "word x beats 9;word y beats 0;reads x s;reads y s;");
        Check.due("0 beats", verse(x, 0, 6, 9, 9, 9, 9), 1);
        Check.dueFound(x, 1);
        Check.due("36 beats", verse(x, 36, 6, 9, 9, 9, 9), 6);
        Check.dueFound(x, 0, 0, 0, 0, 0, 0);
        for (int most = 1; most <= 6; most++) {
            Check.due("most " + most, verse(x, 18, most, 9, 9, 9, 9), most < 3 ? -1 : 3);
        }
        Edge.says("Promise 27", "NONE: none;");
        Check.due("1 beat", verse(x, 1, 6, 9, 9, 9, 9), -1);
        Check.due("54 beats", verse(x, 54, 6, 9, 9, 9, 9), -1);
        Check.due("36 beats in five", verse(x, 36, 5, 9, 9, 9, 9), -1);
        Check.due("no reading", verse(x, 36, 6, 8, 9, 9, 9), -1);
        Check.dueFound(x, 0, 0, 0);
        Edge.says("Promise 27", "-2: not as told, or no SAYINGS.");
        dueNotAsTold(x, 27, 6);
        for (int no : new int[] {-1, 55, 56, Integer.MIN_VALUE, Integer.MAX_VALUE}) {
            Check.due("k " + no, verse(x, no, 6, 9, 9, 9, 9), -2);
        }
        Check.due("k 55 without sayings", verse(new StruckWords(), 55, 6, 9, 9, 9, 9), -2);
        Check.dueFound(x, 0, 0, 0);
        Check.due("find asks for no beats", find(x, 6, 9, 9, 9, 9), 1);
    }

    private static void longer() {
        Edge.says("Promise 28", "How many SAYINGS more the shortest row has that MEANS just m by each beginning than "
            + "the shortest that does by 0 (in most, 1 to 6, both);");
        StruckWords x = Check.tongue(SETTING);
        int[] due = {1, 1, 1, 2, 1, 2, 2, 3};
        for (int m = 0; m < 8; m++) {
            Check.due("longer(" + m + ", 6)", x.longer(m, 6), due[m]);
        }
        Check.due("6 and 3 in 6", x.longer(7, 6), 3);
        Check.due("2 and 1 in 2", x.longer(1, 2), 1);
        Check.due("not in 1", x.longer(1, 1), -7);
        StruckWords five = Check.tongue("edict 5 4;" + SETTING);
        Check.due("5 and 1", five.longer(4, 6), 4);
        Check.due("x x y y, which does not read by 0, and x y", Check.tongue("edict 2 1;" + CHAIN).longer(0, 6), 2);
        Check.dueFound(x);
        Edge.says("Promise 28", "may be below 0;");
        // What is left by 1 of a row that is safe is a shorter row that means it by 0: below 1 none can be.
        for (int n = 2; n <= 5; n++) {
            StruckWords y = Check.tongue("edict " + n + " 1;" + FREE + "mark m;word t;word z;reads t s turns m;reads z s;");
            int bySafe = found(y, n, 9, 1);
            int byAll = found(y, n, 1, 9);
            Check.due("by " + n, y.longer(1, 6), bySafe < 0 || byAll < 0 ? -7 : bySafe - byAll);
        }
    }

    private static int found(StruckWords x, int n, int whole, int struck) {
        int[] goals = new int[n + 1];
        java.util.Arrays.fill(goals, struck);
        goals[0] = whole;
        return find(x, 6, goals);
    }

    private static void longerThanNone() {
        Edge.says("Promise 28", "-7: one of them is not there, or not as told.");
        StruckWords x = Check.tongue(SETTING);
        Check.due("the one is not there", x.longer(7, 5), -7);
        Check.due("both are not there", x.longer(7, 2), -7);
        Check.due("by no beginning, but by 0", Check.tongue(CHAIN).longer(0, 3), -7);
        for (int no : new int[] {-1, 8, 9, Integer.MIN_VALUE, Integer.MAX_VALUE}) {
            Check.due("m " + no, x.longer(no, 6), -7);
        }
        for (int no : new int[] {-1, 0, 7, 8, Integer.MIN_VALUE, Integer.MAX_VALUE}) {
            Check.due("most " + no, x.longer(1, no), -7);
        }
        Check.due("no sayings", new StruckWords().longer(0, 6), -7);
    }

    private static void foundAt() {
        Edge.says("Promise 29", "The i-th SAYING of the latest row FOUND (CHEAPEST and VERSE, too), MENDED or LIKELIEST;");
        StruckWords x = Check.tongue(FREE + "mark m;word z idle;word x costs 5;word v weighs 9;"
            + "reads z s;reads x s sets m;reads v s sets m;");
        Check.due("found", find(x, 6, 9, 1, 1, 1), 2);
        Check.dueFound(x, 1, 1);
        Check.due("cheapest", cheapest(x, 5, 9, 1, 1, 1), 2);
        Check.dueFound(x, 2, 2);
        Check.due("a verse", verse(x, 1, 6, 9, 9, 9, 9), -1);
        Check.due("a verse", verse(x, 2, 6, 9, 1, 1, 1), 3);
        Check.dueFound(x, 0, 1, 1);
        Check.lay(x, 0);
        Check.due("mended", x.mend(), 1);
        Check.dueFound(x, 0, 0);
        Check.tape(x, 1);
        Check.due("torn", x.torn(1, 2), 3);
        Check.dueFound(x, 0, 0);
        Check.due("likeliest", x.likeliest(), 9);
        Check.dueFound(x, 2, 1);
        x.longer(1, 6);
        x.other(3, 1, 1, 6);
        x.sayable(3);
        x.link(2);
        x.lend(2);
        x.standIn(0);
        Check.dueFound(x, 2, 1);
        StruckWords most = Check.tongue("edict 4 3;" + FREE + "word x idle;reads x s;");
        Check.lay(most, 0, 0, 0, 0, 0, 0, 0, 0, 0, 0);
        Check.due("mended, of ten", most.mend(), 0);
        Check.dueFound(most, 0, 0, 0, 0, 0, 0, 0, 0, 0, 0);
        Edge.says("Promise 29", "NONE: there is none such, or ahead of any.");
        Check.due("behind the row", most.foundAt(10), -1);
        Check.due("ahead of the row", most.foundAt(-1), -1);
        for (int far : FAR) {
            Check.due("foundAt(" + far + ")", most.foundAt(far), -1);
        }
        Check.due("ahead of any", new StruckWords().foundAt(0), -1);
        StruckWords none = Check.tongue(SETTING);
        Check.due("none", find(none, 6, 8, 9, 9, 9), -1);
        Check.due("not as told", find(none, 6, 10, 9, 9, 9), -2);
        Check.due("none is found", none.foundAt(0), -1);
        Check.due("cheapest", cheapest(none, 5, 4, 9, 9, 9), 1);
        Check.dueFound(none, 2);
        Check.due("found", find(none, 6, 7, 9, 9, 9), 3);
        Check.due("none", find(none, 6, 8, 9, 9, 9), -1);
        Check.due("none", cheapest(none, 5, 8, 9, 9, 9), -1);
        Check.due("none", verse(none, 54, 6, 9, 9, 9, 9), -1);
        Check.dueFound(none, 0, 1, 2);
    }

    private static void sayable() {
        Edge.says("Promise 30", "SAYABLE, as bits;");
        StruckWords x = Check.tongue("edict 2 1;" + SETTING);
        Check.due("in one", x.sayable(1), 0);
        Check.due("in two", x.sayable(2), 1 | 2 | 4 | 16);
        Check.due("in four", x.sayable(4), 127);
        Check.due("in five", x.sayable(5), 127);
        StruckWords seven = Check.tongue("edict 2 1;" + FREE + "mark l;mark m;mark n;word a;reads a s sets l sets m sets n;");
        Check.due("the last meaning", seven.sayable(2), 128);
        Check.due("no sayings", new StruckWords().sayable(5), 0);
        Edge.says("Promise 30", "NONE: not as told (most 1 to 5).");
        for (int no : new int[] {0, -1, 6, 7, Integer.MIN_VALUE, Integer.MAX_VALUE}) {
            Check.due("sayable(" + no + ")", x.sayable(no), -1);
            Check.due("of a new object", new StruckWords().sayable(no), -1);
        }
    }

    private static void link() {
        Edge.says("Promise 31", "LINK: 10 times the one and the other SORT;");
        StruckWords x = Check.tongue("sort a;sort b;sort c;sort d;sort e begins ends;word x;reads x e;");
        Check.due("e e", x.link(4), 44);
        Check.due("e e", x.link(2), 44);
        StruckWords y = Check.tongue("sort a begins ends;word x;reads x a;");
        Check.due("a a", y.link(4), 0);
        StruckWords z = Check.tongue("edict 2 1;sort a ends;sort b;sort c begins;word x;word y;reads x c;reads y a;");
        Check.due("c a", z.link(4), 20);
        Edge.says("Promise 31", "NONE: none makes more SAYABLE, or not as told (most 1 to 4).");
        Check.due("in one", x.link(1), -1);
        Check.due("none is left to be told", Check.tongue("sort a begins ends;follow a a;word x;reads x a;").link(4), -1);
        Check.due("none makes more", Check.tongue("sort a begins ends;sort b;follow a a;word x;reads x a;").link(4), -1);
        Check.due("no sayings", Check.tongue("sort a begins ends;").link(4), -1);
        Check.due("no sorts", new StruckWords().link(4), -1);
        for (int no : new int[] {0, -1, 5, 6, Integer.MIN_VALUE, Integer.MAX_VALUE}) {
            Check.due("link(" + no + ")", x.link(no), -1);
        }
    }

    private static void lend() {
        Edge.says("Promise 32", "LENT: 10 times the SAYING and the SORT;");
        StruckWords x = Check.tongue("sort a;sort b;sort c;sort d;sort e begins ends;follow e e;mark m;"
            + "word p;word q;word r;word s;word t;word u;word v;word w;"
            + "reads p e sets m;reads q e sets m;reads r e sets m;reads s e sets m;reads t e sets m;reads u e sets m;"
            + "reads v e sets m;");
        Check.due("w e", x.lend(2), 74);
        Check.due("w e", x.lend(3), 74);
        Check.due("p a", Check.tongue("sort a begins ends;follow a a;word p;").lend(4), 0);
        Edge.says("Promise 32", "NONE: none makes more SAYABLE, or not as told (most 1 to 4).");
        Check.due("in one", x.lend(1), -1);
        Check.due("none is left to be told", Check.tongue("sort a begins ends;follow a a;word p;reads p a;").lend(4), -1);
        Check.due("none makes more", Check.tongue("sort a begins ends;follow a a;word p;word q;reads p a;").lend(4), -1);
        Check.due("no sorts", Check.tongue("word p;").lend(4), -1);
        Check.due("no sayings", Check.tongue("sort a begins ends;follow a a;").lend(4), -1);
        for (int no : new int[] {0, -1, 5, 6, Integer.MIN_VALUE, Integer.MAX_VALUE}) {
            Check.due("lend(" + no + ")", x.lend(no), -1);
        }
    }

    private static void other() {
        Edge.says("Promise 33", "How many SAYINGS the shortest row has that MEANS just m by each beginning of another edict "
            + "(2 to 5; 1 to n less 1), in most (1 to 6);");
        StruckWords x = Check.tongue("edict 5 1;" + SETTING);
        for (int n = 2; n <= 5; n++) {
            for (int run = 1; run < n; run++) {
                Check.due("other(" + n + ", " + run + ", 1, 6)", x.other(n, run, 1, 6), run + 1);
                Check.due("in just so many", x.other(n, run, 1, run + 1), run + 1);
            }
        }
        Check.due("none set", x.other(2, 1, 0, 6), 2);
        Check.due("all set", x.other(4, 1, 7, 6), 6);
        Check.due("x x y y, which does not read by 0", Check.tongue("edict 5 1;" + CHAIN).other(2, 1, 0, 6), 4);
        Check.due("the edict stays", x.count(3) * 10 + x.count(4), 51);
        Check.dueFound(x);
        Edge.says("Promise 33", "NONE: none (so without SAYINGS);");
        for (int n = 2; n <= 5; n++) {
            for (int run = 1; run < n; run++) {
                Check.due("one less than it takes", x.other(n, run, 1, run), -1);
                Check.due("without sayings", new StruckWords().other(n, run, 0, 6), -1);
            }
        }
        Check.due("all set in five", x.other(4, 1, 7, 5), -1);
        Check.due("a mark that is never set", Check.tongue(FREE + "word x;reads x s;").other(2, 1, 7, 6), -1);
        Edge.says("Promise 33", "-2: not as told.");
        int[][] none = {{1, 1}, {1, 0}, {0, 0}, {-1, 1}, {6, 1}, {6, 5}, {2, 0}, {2, 2}, {3, 0}, {3, 3}, {4, 4}, {5, 5}, {5, 0},
            {5, -1}, {Integer.MIN_VALUE, 1}, {Integer.MAX_VALUE, 1}, {5, Integer.MIN_VALUE}, {5, Integer.MAX_VALUE}};
        for (int[] no : none) {
            Check.due("edict " + no[0] + " " + no[1], x.other(no[0], no[1], 0, 6), -2);
            Check.due("without sayings", new StruckWords().other(no[0], no[1], 0, 6), -2);
        }
        for (int no : new int[] {-1, 8, 9, Integer.MIN_VALUE, Integer.MAX_VALUE}) {
            Check.due("m " + no, x.other(3, 1, no, 6), -2);
        }
        for (int no : new int[] {-1, 0, 7, 8, Integer.MIN_VALUE, Integer.MAX_VALUE}) {
            Check.due("most " + no, x.other(3, 1, 0, no), -2);
        }
    }

    private static void mendIs() {
        Edge.says(TERMS, "MEND: the fewest SAYINGS that are idle put in anywhere");
        StruckWords x = Check.tongue(FREE + "mark m;word x;word i idle;word k idle;reads x s turns m;reads i s;reads k s sets m;");
        Check.lay(x, 0, 0);
        // By 1 and 2 x is left, by 3 and 0 x x; of four the first and the fourth are struck by 1: x i is left.
        Check.due("two behind", x.mend(), 2);
        Check.dueFound(x, 0, 0, 1, 2);
        Check.lay(x, 1);
        Check.due("one", x.mend(), 1);
        Check.dueFound(x, 1, 1);
        Check.lay(x, 1, 1);
        Check.due("none is needed", x.mend(), 0);
        Check.dueFound(x, 1, 1);
        StruckWords ahead = Check.tongue("sort a begins;sort b ends;follow a a;follow a b;follow b b;word x;word p idle;word q idle;"
            + "reads x b;reads p a;reads q b;");
        Check.lay(ahead, 0);
        Check.due("two ahead of it, one behind it", ahead.mend(), 3);
        Check.dueFound(ahead, 1, 1, 0, 2);
        StruckWords between = Check.tongue("edict 2 1;sort a begins;sort b;sort c ends;follow a b;follow b c;"
            + "word x;word z;word y idle;reads x a;reads z c;reads y b;");
        Check.lay(between, 0, 0, 1, 1);
        Check.due("by 0 two x follow, whatever is put in", between.mend(), -1);
        Edge.says(TERMS, "(3 at most;");
        StruckWords three = Check.tongue("edict 5 4;" + FREE + "word x;word y idle;reads x s;reads y s;");
        int[] due = {-1, 3, 2, 1, 0};
        for (int size = 1; size <= 5; size++) {
            Check.lay(three, new int[size]);
            Check.due("into " + size, three.mend(), due[size - 1]);
        }
    }

    private static void mendSizes() {
        Edge.says(TERMS, "into a TEXT of 10 at most)");
        StruckWords x = Check.tongue("edict 4 3;" + FREE + "mark m;word x;word z;word y idle;"
            + "reads x s sets m;reads z s clears m;reads y s clears m;");
        Check.lay(x, 0, 0, 0, 0, 0, 0, 0, 0, 0, 1);
        Check.due("three into ten", x.mend(), 3);
        Check.dueFound(x, 0, 0, 0, 0, 0, 0, 0, 0, 0, 1, 2, 2, 2);
        // The last four must clear it; were the thirteenth not struck, y y y could come first.
        StruckWords first = Check.tongue("edict 4 3;" + FREE + "mark m;word y idle;word x;word z;"
            + "reads x s sets m;reads z s clears m;reads y s clears m;");
        Check.lay(first, 1, 1, 1, 1, 1, 1, 1, 1, 1, 2);
        Check.due("three into ten", first.mend(), 3);
        Check.dueFound(first, 1, 1, 1, 1, 1, 1, 1, 1, 1, 0, 0, 0, 2);
        Check.lay(x, 0, 0, 0, 0, 0, 0, 0, 0, 0, 0, 0);
        Check.due("eleven, though it is safe", x.safe(), 1);
        Check.due("eleven", x.mend(), -2);
        Edge.says(TERMS, "so that it is SAFE and MEANS so by 0, too;");
        StruckWords turning = Check.tongue(FREE + "mark m;word t;word k idle;reads t s turns m;reads k s clears m;");
        Check.lay(turning, 0, 0, 0);
        Check.due("it is safe for 0", turning.safe(), 0);
        Check.due("but means 1 by 0", turning.means(0), 2);
        Check.due("one behind", turning.mend(), 1);
        Check.dueFound(turning, 0, 0, 0, 1);
        StruckWords none = Check.tongue(FREE + "mark m;word t;reads t s turns m;");
        Check.lay(none, 0, 0, 0);
        Check.due("safe for 0", none.safe(), 0);
        Check.due("nothing to put in", none.mend(), -1);
        StruckWords doubtful = Check.tongue(DOUBTFUL + "word i idle;reads i a;");
        Check.lay(doubtful, 0, 0);
        Check.due("two meanings are not safe", doubtful.mend(), -1);
    }

    private static void mendOfLikeOnes() {
        Edge.says(TERMS, "of like ones the first (by the whole row).");
        String[] words = {"word x;word y idle;", "word y idle;word x;"};
        int[][] rows = {{0, 1}, {0, 1}};
        int[] said = {0, 1};
        for (int i = 0; i < 2; i++) {
            StruckWords x = Check.tongue(FREE + words[i] + "reads x s;reads y s;");
            Check.lay(x, said[i]);
            Check.due("one", x.mend(), 1);
            Check.dueFound(x, rows[i]);
        }
        StruckWords both = Check.tongue(FREE + "word k idle;word x;word i idle;reads k s;reads x s;reads i s;");
        Check.lay(both, 1);
        Check.due("one", both.mend(), 1);
        Check.dueFound(both, 0, 1);
        StruckWords more = Check.tongue("edict 5 4;" + FREE + "word k;word x;word i idle;reads k s;reads x s;reads i s;");
        Check.lay(more, 1, 0, 1);
        Check.due("two: x ahead of k, i behind all", more.mend(), 2);
        Check.dueFound(more, 1, 0, 1, 2, 2);
        StruckWords self = Check.tongue("edict 4 3;" + FREE + "word k idle;word x idle;reads k s;reads x s;");
        Check.lay(self, 1, 0);
        Check.due("two k's ahead", self.mend(), 2);
        Check.dueFound(self, 0, 0, 1, 0);
    }

    private static void mend() {
        Edge.says("Promise 34", "MEND: how many are put in (0 to 3);");
        StruckWords x = Check.tongue("edict 5 4;" + FREE + "word x;word y idle;reads x s;reads y s;");
        for (int putIn = 0; putIn <= 3; putIn++) {
            Check.lay(x, new int[5 - putIn]);
            Check.due("put in " + putIn, x.mend(), putIn);
            Check.due("the text stays", x.count(5), 5 - putIn);
            Check.due("the row", x.foundAt(4), putIn == 0 ? 0 : 1);
            Check.due("five", x.foundAt(5), -1);
        }
        Edge.says("Promise 34", "NONE: it can't be;");
        Check.lay(x, 0);
        Check.due("four would be needed", x.mend(), -1);
        Check.dueFound(x, 0, 0, 1, 1, 1);
        StruckWords none = Check.tongue("edict 5 4;" + FREE + "word x;reads x s;");
        Check.lay(none, 0, 0, 0, 0);
        Check.due("none are idle", none.mend(), -1);
        Edge.says("Promise 34", "-2: a TEXT of more than 10 or of none.");
        Check.lay(x, new int[10]);
        Check.due("ten", x.mend(), 0);
        Check.lay(x, new int[11]);
        Check.due("eleven", x.mend(), -2);
        Check.lay(x, new int[24]);
        Check.due("24", x.mend(), -2);
        Check.lay(x);
        Check.due("none", x.mend(), -2);
        Check.due("no tongue", new StruckWords().mend(), -2);
        Check.lay(x, 0, 0, 0, 0, 0);
        Check.due("five", x.mend(), 0);
        Check.lay(x, new int[11]);
        Check.due("eleven", x.mend(), -2);
        Check.dueFound(x, 0, 0, 0, 0, 0);
    }
}
