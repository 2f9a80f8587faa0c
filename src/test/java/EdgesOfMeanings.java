import java.math.BigInteger;

/** Promises 14 to 24, and the terms' sentences on what TEXTS mean. */
final class EdgesOfMeanings {
    private static final String TERMS = "Terms";
    private static final int[] FAR = {Integer.MIN_VALUE, -2, 32, 64, Integer.MAX_VALUE};
    /** Three sorts in their order; o reads as none. */
    private static final String CHAIN = "sort a begins;sort b;sort c ends;follow a b;follow b c;follow a c;"
        + "word x;word y;word z;word o;reads x a;reads y b;reads z c;";
    /** A mark for each of three words that turn it; z changes nothing. */
    private static final String TURNING = "sort s begins ends;follow s s;mark l;mark m;mark n;word a;word b;word c;word z;"
        + "reads a s turns l;reads b s turns m;reads c s turns n;reads z s;";
    private static final String SETTING = TURNING.replace("turns", "sets");
    /** x sets the mark, y clears it, z leaves it; u can clear it or leave it. */
    private static final String DOUBTFUL = "sort a begins ends;sort b begins ends;follow a a;follow a b;follow b a;follow b b;"
        + "mark m;mark n;word x;word y;word z;word u;reads x a sets m;reads y a clears m;reads z a;"
        + "reads u a clears m;reads u b;";

    private EdgesOfMeanings() {
    }

    static void run() {
        meaningIsASet();
        toldToRead();
        firstBegins();
        lastEnds();
        eachTwoFollow();
        meaningOfAReading();
        meansAll();
        meansNothing();
        safeIs();
        turnsIs();
        knownIs();
        againstIs();
        twiceIs();
        standInIs();
        lettersAre();
        noLetters();
        manyWays();
        means();
        readings();
        sortAt();
        turns();
        against();
        twice();
        standIn();
        safe();
        known();
        scans();
        letters();
    }

    private static void meaningIsASet() {
        Edge.says(TERMS, "A MEANING is a set of MARKS, as bits (0 to 7).");
        StruckWords x = Check.tongue(SETTING);
        Check.lay(x, 3);
        Check.due("no mark", x.means(0), 1 << 0);
        Check.lay(x, 0);
        Check.due("the first mark", x.means(0), 1 << 1);
        Check.lay(x, 2);
        Check.due("the last mark", x.means(0), 1 << 4);
        Check.lay(x, 0, 1, 2);
        Check.due("all marks", x.means(0), 1 << 7);
        Check.due("of 7", x.becomes(3, 0, 7), 7);
        Check.due("of 8", x.becomes(3, 0, 8), -1);
        Check.due("of -1", x.becomes(3, 0, -1), -1);
        StruckWords one = Check.tongue("sort s;mark l;word a;reads a s turns l;");
        Check.due("0 to 7 with one mark, too", one.becomes(0, 0, 7), 6);
    }

    private static void toldToRead() {
        Edge.says(TERMS, "A READING of a row of SAYINGS: for each one a SORT with which it is told to read,");
        StruckWords x = Check.tongue(CHAIN);
        Check.text(x, "x y z");
        Check.due("each reads", x.readings(0), 1);
        for (String text : new String[] {"o y z", "x o z", "x y o", "o"}) {
            Check.text(x, text);
            Check.due("o does not read: " + text, x.readings(0), 0);
            Check.due("so it means nothing", x.means(0), 0);
        }
        StruckWords two = Check.tongue("sort a begins ends;sort b begins ends;follow a a;follow a b;follow b a;follow b b;"
            + "word x;word y;reads x a;reads x b;reads y b;");
        Check.text(two, "x y x");
        Check.due("two ways and one and two", two.readings(0), 4);
    }

    private static void firstBegins() {
        Edge.says(TERMS, "the first of a SORT that begins,");
        StruckWords x = Check.tongue(CHAIN);
        Check.text(x, "y z");
        Check.due("b does not begin", x.readings(0), 0);
        Check.text(x, "z");
        Check.due("nor does c", x.readings(0), 0);
        Check.text(x, "x z");
        Check.due("a does", x.readings(0), 1);
        Check.due("by 3 all is left", x.readings(3), 1);
        Check.text(x, "y x z");
        Check.due("what is first is what is left first", x.readings(1), 1);
    }

    private static void lastEnds() {
        Edge.says(TERMS, "the last of one that ends,");
        StruckWords x = Check.tongue(CHAIN);
        Check.text(x, "x y");
        Check.due("b does not end", x.readings(0), 0);
        Check.text(x, "x");
        Check.due("nor does a", x.readings(0), 0);
        Check.text(x, "x z y");
        Check.due("nor b behind all", x.readings(0), 0);
        Check.due("what is last is what is left last", x.readings(3), 1);
    }

    private static void eachTwoFollow() {
        Edge.says(TERMS, "each two that follow one another told by 'follow'.");
        StruckWords x = Check.tongue("sort a begins ends;sort b begins ends;sort c begins ends;follow a b;follow b c;"
            + "word x;word y;word z;reads x a;reads y b;reads z c;");
        String[] texts = {"x y", "y z", "x y z", "y x", "z y", "x z", "x x", "x y x", "x y y z"};
        int[] readings = {1, 1, 1, 0, 0, 0, 0, 0, 0};
        for (int i = 0; i < texts.length; i++) {
            Check.text(x, texts[i]);
            Check.due(texts[i], x.readings(0), readings[i]);
        }
        Check.text(x, "x z y");
        Check.due("left by 2 they follow one another", x.readings(2), 1);
    }

    private static void meaningOfAReading() {
        Edge.says(TERMS, "Its MEANING: from none set on, SAYING by SAYING, each one's changes (as told for that SORT) in order.");
        StruckWords x = Check.tongue(DOUBTFUL);
        String[] texts = {"z", "y", "x", "x y", "y x", "x z", "x y x", "u", "x u"};
        int[] means = {1, 1, 2, 1, 2, 2, 2, 1, 3};
        for (int i = 0; i < texts.length; i++) {
            Check.text(x, texts[i]);
            Check.due(texts[i], x.means(0), means[i]);
        }
        StruckWords order = Check.tongue("sort a begins ends;mark m;word x;word y;reads x a sets m turns m;reads y a turns m sets m;");
        Check.text(order, "x");
        Check.due("set, then turned", order.means(0), 1);
        Check.text(order, "y");
        Check.due("turned, then set", order.means(0), 2);
    }

    private static void meansAll() {
        Edge.says(TERMS, "MEANS: all MEANINGS of READINGS, as bits (bit m for MEANING m;");
        StruckWords x = Check.tongue(TURNING);
        for (int m = 0; m < 8; m++) {
            Check.lay(x, (m & 1) != 0 ? 0 : 3, (m & 2) != 0 ? 1 : 3, (m & 4) != 0 ? 2 : 3);
            Check.due("means " + m, x.means(0), 1 << m);
        }
        StruckWords all = Check.tongue("sort a begins ends;sort b begins ends;follow a a;follow a b;follow b a;follow b b;"
            + "mark l;mark m;mark n;word x;word y;word z;reads x a;reads x b sets l;reads y a;reads y b sets m;"
            + "reads z a;reads z b sets n;");
        Check.text(all, "x y z");
        Check.due("all eight", all.means(0), 255);
        Check.due("without x", all.means(1), 1 | 4 | 16 | 64);
        Check.due("without y", all.means(2), 1 | 2 | 16 | 32);
        Check.due("without z", all.means(3), 1 | 2 | 4 | 8);
        Check.text(all, "x y z x");
        Check.due("all eight, and again", all.means(0), 255);
        Check.due("by 1 y and z are left", all.means(1), 1 | 4 | 16 | 64);
    }

    private static void meansNothing() {
        Edge.says(TERMS, "0: there is no READING, so of a row without SAYINGS).");
        StruckWords x = Check.tongue(SETTING);
        for (int b = 0; b <= 3; b++) {
            Check.due("no text", x.means(b), 0);
        }
        Check.lay(x, 0);
        Check.due("nothing is left by 1", x.means(1), 0);
        Check.due("it is by 2", x.means(2), 2);
        StruckWords none = Check.tongue("sort a begins;sort b ends;word w;reads w a;reads w b;");
        Check.lay(none, 0, 0);
        Check.due("no reading", none.means(0), 0);
        Check.due("no tongue", new StruckWords().means(0), 0);
        StruckWords all = Check.tongue("edict 5 4;" + SETTING);
        Check.lay(all, 0, 0, 0, 0);
        int[] means = {2, 0, 2, 2, 2, 2};
        for (int b = 0; b <= 5; b++) {
            Check.due("four of five, by " + b, all.means(b), means[b]);
        }
    }

    private static void safeIs() {
        Edge.says(TERMS, "It is SAFE, if there is one MEANING that is all that it MEANS by each beginning (1 to N).");
        StruckWords each = Check.tongue(SETTING);
        for (int m = 0; m < 8; m++) {
            int first = (m & 1) != 0 ? 0 : 3;
            int second = (m & 2) != 0 ? 1 : 3;
            int third = (m & 4) != 0 ? 2 : 3;
            Check.lay(each, first, first, second, second, third, third);
            Check.due("safe for " + m, each.safe(), m);
        }
        for (int n = 2; n <= 5; n++) {
            StruckWords x = Check.tongue("edict " + n + " 1;" + DOUBTFUL);
            int[] lastDiffers = new int[n];
            java.util.Arrays.fill(lastDiffers, 1);
            lastDiffers[n - 1] = 0;
            Check.lay(x, lastDiffers);
            Check.due("by the last of " + n + " it means another", x.safe(), -1);
            int[] firstDiffers = new int[n];
            java.util.Arrays.fill(firstDiffers, 2);
            firstDiffers[0] = 0;
            Check.lay(x, firstDiffers);
            Check.due("by the first of " + n + " it means another", x.safe(), -1);
            Check.lay(x, 0, 0);
            Check.due("safe by each of " + n, x.safe(), 1);
            Check.lay(x, 0);
            Check.due("by the first of " + n + " nothing is left", x.safe(), -1);
            Check.lay(x, 3, 0, 3, 3);
            Check.due("two meanings by some of " + n, x.safe(), -1);
        }
        StruckWords turning = Check.tongue(TURNING);
        Check.lay(turning, 0, 0, 0);
        Check.due("by 0 it means another", turning.means(0), 2);
        Check.due("yet it is safe", turning.safe(), 0);
        StruckWords both = Check.tongue("sort a begins ends;sort b begins ends;follow a a;follow b b;mark m;word w;"
            + "reads w a;reads w b sets m;");
        Check.lay(both, 0, 0);
        Check.due("the same two by each", both.safe(), -1);
        Check.lay(both);
        Check.due("no text", both.safe(), -1);
    }

    private static void turnsIs() {
        Edge.says(TERMS, "It TURNS by a beginning, if what is LEFT MEANS not what all of it does.");
        StruckWords x = Check.tongue(DOUBTFUL);
        String[] texts = {"", "x", "x x", "y x", "x y", "x u", "u x", "z z z"};
        // x u means both, u alone the one, x alone the other; by 3 nothing of two is struck.
        int[] turns = {0, 2, 0, 4, 4, 6, 4, 0};
        for (int i = 0; i < texts.length; i++) {
            Check.text(x, texts[i]);
            Check.due("turns of " + texts[i], x.turns(), turns[i]);
        }
        StruckWords chain = Check.tongue(CHAIN);
        Check.text(chain, "x y z");
        Check.due("no reading by 1 and 3", chain.turns(), 2 | 8);
        Check.text(chain, "x y");
        Check.due("no reading at all", chain.turns(), 0);
        Check.text(chain, "x z y");
        Check.due("a reading by 3 alone", chain.turns(), 8);
    }

    private static void dueKnown(StruckWords x, int m, int above, int below) {
        Check.due("known(" + m + ", 0)", x.known(m, 0), above);
        Check.due("known(" + m + ", 1)", x.known(m, 1), below);
    }

    private static void knownIs() {
        Edge.says(TERMS, "KNOWN for a MEANING: W of the clerk's beginnings by which it MEANS just that, by all W, in least numbers.");
        StruckWords x = Check.tongue("clerk 1 4;clerk 2 6;clerk 3 2;" + DOUBTFUL);
        Check.text(x, "y x");
        // By 1 and 3 it means 1, by 2 it means 0.
        dueKnown(x, 1, 1, 2);
        dueKnown(x, 0, 1, 2);
        dueKnown(x, 2, 0, 1);
        Check.text(x, "x u");
        // By 1 it means 0, by 2 it means 1, by 3 both: neither is just that.
        dueKnown(x, 0, 1, 3);
        dueKnown(x, 1, 1, 2);
        Check.text(x, "x x");
        dueKnown(x, 1, 1, 1);
        dueKnown(x, 0, 0, 1);
        StruckWords most = Check.tongue("edict 5 1;clerk 1 9;clerk 2 9;clerk 3 9;clerk 4 9;clerk 5 8;" + DOUBTFUL);
        Check.lay(most, 0);
        dueKnown(most, 1, 35, 44);
        Check.lay(most, 1, 1, 1, 1, 0);
        dueKnown(most, 1, 9, 11);
        dueKnown(most, 0, 2, 11);
        StruckWords none = Check.tongue("clerk 1 0;clerk 2 0;" + DOUBTFUL);
        Check.text(none, "y x");
        dueKnown(none, 1, 1, 1);
        dueKnown(none, 0, 0, 1);
        StruckWords by2 = Check.tongue("edict 2 1;clerk 1 4;clerk 2 2;" + DOUBTFUL);
        Check.text(by2, "y x");
        // By 1 it means 1, by 2 it means 0.
        dueKnown(by2, 1, 2, 3);
        dueKnown(by2, 0, 1, 3);
        StruckWords by3 = Check.tongue("edict 2 1;clerk 1 6;clerk 2 9;" + DOUBTFUL);
        Check.text(by3, "y x");
        dueKnown(by3, 1, 2, 5);
        StruckWords without = Check.tongue("edict 4 1;" + DOUBTFUL);
        Check.text(without, "x");
        dueKnown(without, 1, 3, 4);
    }

    private static void againstIs() {
        Edge.says(TERMS, "A MARK is turned AGAINST all of it by a beginning, if both have a READING, "
            + "and it is set in all MEANINGS of the one and in none of the other.");
        StruckWords x = Check.tongue(DOUBTFUL);
        String[] texts = {"", "x", "y x", "x y", "u x", "x u", "x u y", "u u", "x x", "z x x"};
        // "u x" is set in all, by 2 in none; "x u" is set in some; "x u y" is not set, by 3 in some.
        int[] against = {0, 0, 4, 4, 4, 0, 0, 0, 0, 0};
        for (int i = 0; i < texts.length; i++) {
            Check.text(x, texts[i]);
            Check.due("against of " + texts[i], x.against(0), against[i]);
            Check.due("no change of the other mark in " + texts[i], x.against(1), 0);
        }
        StruckWords left = Check.tongue("sort a begins;sort b ends;follow a b;mark m;word p;word q;word r;"
            + "reads p a sets m;reads q b;reads r b clears m;");
        Check.text(left, "p r q");
        Check.due("all of it has no reading", left.against(0), 0);
        Check.text(left, "p q");
        Check.due("what is left has none", left.against(0), 0);
        StruckWords three = Check.tongue(TURNING);
        Check.lay(three, 2, 2, 2);
        Check.due("the third mark", three.against(2), 2 | 4 | 8);
        Check.due("not the second", three.against(1), 0);
        Check.lay(three, 2, 1, 0);
        Check.due("the third by 1", three.against(2), 2);
        Check.due("the second by 2", three.against(1), 4);
        Check.due("the first by 3", three.against(0), 8);
    }

    private static void twiceIs() {
        Edge.says(TERMS, "TWICE by b and c: what is LEFT by b, struck by c likewise once more.");
        StruckWords x = Check.tongue("edict 3 2;" + TURNING);
        Check.lay(x, 0, 1, 2);
        // By 1 c is left, by 2 a, by 3 a b.
        int[][] due = {{0, 1 << 4, 1 << 4}, {0, 1 << 1, 1 << 1}, {0, 1 << 1, 1 << 3}};
        for (int b = 1; b <= 3; b++) {
            for (int c = 1; c <= 3; c++) {
                Check.due("twice(" + b + ", " + c + ")", x.twice(b, c), due[b - 1][c - 1]);
            }
        }
        StruckWords y = Check.tongue("edict 2 1;" + TURNING);
        Check.lay(y, 0, 1, 2, 3);
        // By 1 b z, by 2 a c.
        Check.due("twice(1, 1)", y.twice(1, 1), 1 << 0);
        Check.due("twice(1, 2)", y.twice(1, 2), 1 << 2);
        Check.due("twice(2, 1)", y.twice(2, 1), 1 << 4);
        Check.due("twice(2, 2)", y.twice(2, 2), 1 << 1);
    }

    private static void standInIs() {
        Edge.says(TERMS, "STAND IN: a SAYING for that at one place so that the TEXT MEANS by 0 and each beginning "
            + "what it does as it is.");
        for (int n = 2; n <= 5; n++) {
            StruckWords x = Check.tongue("edict " + n + " 1;" + DOUBTFUL);
            int[] row = new int[n];
            java.util.Arrays.fill(row, 2);
            row[n - 1] = 0;
            Check.lay(x, row);
            // By the last alone x is struck, and x at the first place would be seen.
            Check.due("the last beginning of " + n, x.standIn(0), 2 | 4 | 8);
        }
        StruckWords whole = Check.tongue("edict 2 1;sort a begins;sort b ends;follow a b;mark m;word p;word q;word r;"
            + "reads p a;reads q a sets m;reads r b;");
        Check.text(whole, "p r");
        Check.due("by 0 alone there is a reading", whole.standIn(0), 1);
        Check.due("by 0 alone there is a reading", whole.standIn(1), 4);
        StruckWords none = Check.tongue(CHAIN);
        Check.text(none, "o o");
        Check.due("without a reading all that leave it so", none.standIn(0), 1 | 2 | 4 | 8);
    }

    private static void lettersAre() {
        Edge.says(TERMS, "LETTERS of LEFT by b: of the NAMES of all SAYINGS of the TEXT, one behind the other, letters are struck "
            + "likewise (place by place): in how many ways what is left is NAMES of SAYINGS, one behind the other");
        StruckWords x = Check.tongue("word ab;word ba;word a;word abab;word b;");
        Check.text(x, "ab ab");
        // abab: ab ab, ab a b, a b ab, a b a b, a ba b, abab.
        Check.due("abab", x.letters(0), 6);
        Check.due("ba", x.letters(1), 2);
        Check.due("aab", x.letters(2), 2);
        Check.due("abb", x.letters(3), 2);
        StruckWords y = Check.tongue("edict 3 2;word abcdef;word c;word f;word cf;word ab;");
        Check.text(y, "abcdef");
        Check.due("abcdef", y.letters(0), 1);
        Check.due("cf", y.letters(1), 2);
        Check.due("ad", y.letters(2), 0);
        Check.due("abe", y.letters(3), 0);
        StruckWords eight = Check.tongue("word a;word b;word c;word d;word e;word f;word g;word abc;");
        Check.text(eight, "abc");
        Check.due("abc, of eight", eight.letters(0), 2);
        Check.dueTongue(eight, "word abc;", 1, 0);
        Check.text(eight, "abc");
        Check.due("words of an older tongue are none", eight.letters(0), 1);
        // c ab f: by 3 the run goes on in the next NAME.
        Check.text(y, "c ab f");
        Check.due("b by 1", y.letters(1), 0);
        Check.due("cf by 2", y.letters(2), 2);
        Check.due("ca by 3", y.letters(3), 0);
    }

    private static void noLetters() {
        Edge.says(TERMS, "(none left: 1;");
        StruckWords x = Check.tongue("edict 5 4;word a;word abcd;");
        for (int b = 0; b <= 5; b++) {
            Check.due("no text", x.letters(b), 1);
        }
        Check.text(x, "a");
        Check.due("one struck", x.letters(1), 1);
        Check.text(x, "abcd");
        Check.due("four struck", x.letters(1), 1);
        Check.due("a is left", x.letters(2), 1);
        Check.due("ab is left", x.letters(3), 0);
        Check.text(x, "abcd a");
        Check.due("the fifth is left", x.letters(1), 1);
        Check.due("no tongue", new StruckWords().letters(0), 1);
    }

    private static void manyWays() {
        Edge.says(TERMS, "10^15, if there are more).");
        StruckWords x = Check.tongue("word a;word aa;word aaa;word aaaa;word aaaaa;word aaaaaa;");
        for (int size = 44; size <= 60; size++) {
            int[] row = new int[24];
            for (int i = 0; i < size - 24; i++) {
                row[i % 24]++;
            }
            Check.lay(x, row);
            Check.due(size + " letters", x.letters(0), waysOf(size));
        }
        Check.due("fewer are told as they are", waysOf(44) < 1_000_000_000_000_000L, true);
        Check.due("more are not", waysOf(60), 1_000_000_000_000_000L);
        int[] longest = new int[24];
        java.util.Arrays.fill(longest, 5);
        Check.lay(x, longest);
        for (int b = 0; b <= 3; b++) {
            Check.due("the longest by " + b, x.letters(b), 1_000_000_000_000_000L);
        }
    }

    private static long waysOf(int size) {
        BigInteger[] ways = new BigInteger[size + 1];
        for (int i = 0; i <= size; i++) {
            ways[i] = i == 0 ? BigInteger.ONE : BigInteger.ZERO;
            for (int step = 1; step <= 6 && step <= i; step++) {
                ways[i] = ways[i].add(ways[i - step]);
            }
        }
        return ways[size].min(BigInteger.TEN.pow(15)).longValue();
    }

    private static void means() {
        Edge.says("Promise 14", "What the TEXT MEANS by b, as bits;");
        StruckWords x = Check.tongue("edict 5 1;" + TURNING);
        Check.lay(x, 0, 1, 2, 3, 0);
        int[] means = {1 << 6, 1 << 7, 1 << 4, 1 << 2, 1 << 6, 1 << 7};
        for (int b = 0; b <= 5; b++) {
            Check.due("means(" + b + ")", x.means(b), means[b]);
        }
        Edge.says("Promise 14", "NONE: no such one.");
        for (int n = 2; n <= 5; n++) {
            StruckWords y = Check.tongue("edict " + n + " 1;" + TURNING);
            Check.lay(y, 0, 1, 2, 3, 0);
            Check.due("means(N)", y.means(n) > 0, true);
            Check.due("means(N and 1)", y.means(n + 1), -1);
            Check.due("means(-1)", y.means(-1), -1);
            for (int far : FAR) {
                Check.due("means(" + far + ")", y.means(far), -1);
            }
        }
    }

    private static void readings() {
        Edge.says("Promise 15", "How many READINGS it has by b;");
        StruckWords x = Check.tongue("word w;word v;" + Check.fiveThatFollow()
            + "reads w a;reads w b;reads w c;reads w d;reads w e;");
        Check.due("no text", x.readings(0), 0);
        Check.lay(x, new int[24]);
        Check.due("5^24", x.readings(0), 59_604_644_775_390_625L);
        for (int b = 1; b <= 3; b++) {
            Check.due("5^16", x.readings(b), 152_587_890_625L);
        }
        Check.lay(x, 0);
        Check.due("5", x.readings(0), 5);
        Check.due("nothing is left", x.readings(1), 0);
        Check.lay(x, 0, 1, 0);
        Check.due("v does not read", x.readings(0), 0);
        Check.due("by 2 it is struck", x.readings(2), 25);
        Edge.says("Promise 15", "NONE: no such one.");
        for (int b : new int[] {-1, 4, 5, Integer.MIN_VALUE, Integer.MAX_VALUE}) {
            Check.due("readings(" + b + ")", x.readings(b), -1);
        }
        Check.due("readings(3)", Check.tongue("edict 2 1;").readings(3), -1);
        Check.due("readings(5)", Check.tongue("edict 5 1;").readings(5), 0);
    }

    private static void sortAt() {
        Edge.says("Promise 16", "The SORT of the i-th that is LEFT by b in the first READING (SORT by SORT);");
        StruckWords x = Check.tongue("sort a begins;sort b begins;sort c;sort d ends;sort e begins ends;"
            + "follow a c;follow b d;follow b c;follow c d;follow e e;word x;word y;word z;"
            + "reads x b;reads x a;reads x e;reads y d;reads y c;reads z d;reads z e;");
        // x y: a c does not end, a d does not follow; b d does.
        Check.text(x, "x y");
        Check.due("x is read as b", x.sortAt(0, 0), 1);
        Check.due("y as d", x.sortAt(0, 1), 3);
        // x y z: a c d is ahead of b c d.
        Check.text(x, "x y z");
        int[] sorts = {0, 2, 3};
        for (int i = 0; i < 3; i++) {
            Check.due("x y z, " + i, x.sortAt(0, i), sorts[i]);
        }
        // By 2 x z is left: b d is ahead of e e.
        Check.due("x z", x.sortAt(2, 0), 1);
        Check.due("x z", x.sortAt(2, 1), 3);
        StruckWords same = Check.tongue(TURNING);
        Check.lay(same, new int[24]);
        Check.due("the first of 24", same.sortAt(0, 0), 0);
        Check.due("the last of 24", same.sortAt(0, 23), 0);
        Check.due("the last of 16", same.sortAt(1, 15), 0);
        Check.text(x, "x");
        Check.due("x alone ends as e", x.sortAt(0, 0), 4);
        Edge.says("Promise 16", "NONE: there is none, no such ones.");
        Check.due("behind it", x.sortAt(0, 1), -1);
        Check.due("ahead of it", x.sortAt(0, -1), -1);
        Check.due("nothing is left", x.sortAt(1, 0), -1);
        Check.due("b -1", x.sortAt(-1, 0), -1);
        Check.due("b 4", x.sortAt(4, 0), -1);
        for (int far : FAR) {
            Check.due("i " + far, x.sortAt(0, far), -1);
            Check.due("b " + far, x.sortAt(far, 0), -1);
        }
        Check.text(x, "y x y");
        for (int i = 0; i < 3; i++) {
            Check.due("no reading", x.sortAt(0, i), -1);
        }
        Check.due("one by 1", x.sortAt(1, 1), 3);
        Check.due("it is of two", x.sortAt(1, 2), -1);
        Check.text(x, "x z y");
        Check.due("it begins well, but there is no reading", x.sortAt(0, 0), -1);
        Check.text(x, "");
        Check.due("no text", x.sortAt(0, 0), -1);
        Check.due("no tongue", new StruckWords().sortAt(0, 0), -1);
    }

    private static void turns() {
        Edge.says("Promise 17", "The beginnings by which the TEXT TURNS, as bits (bit b).");
        for (int n = 2; n <= 5; n++) {
            StruckWords x = Check.tongue("edict " + n + " 1;" + TURNING);
            for (int b = 1; b <= n; b++) {
                int[] row = new int[n];
                java.util.Arrays.fill(row, 3);
                row[b - 1] = 0;
                Check.lay(x, row);
                Check.due("turns by " + b + " of " + n, x.turns(), 1 << b);
            }
            int[] row = new int[n];
            Check.lay(x, row);
            Check.due("turns by each of " + n, x.turns(), (1 << n + 1) - 2);
            Check.lay(x, 3, 3);
            Check.due("turns by none", x.turns(), 0);
        }
        Check.due("no text", new StruckWords().turns(), 0);
    }

    private static void against() {
        Edge.says("Promise 18", "The beginnings by which MARK k is turned AGAINST, as bits;");
        for (int n = 2; n <= 5; n++) {
            StruckWords x = Check.tongue("edict " + n + " 1;" + TURNING);
            for (int b = 1; b <= n; b++) {
                int[] row = new int[n];
                java.util.Arrays.fill(row, 3);
                row[b - 1] = 2;
                Check.lay(x, row);
                Check.due("mark 2 by " + b + " of " + n, x.against(2), 1 << b);
                Check.due("mark 0", x.against(0), 0);
            }
        }
        Edge.says("Promise 18", "NONE: no such MARK.");
        for (int marks = 0; marks <= 3; marks++) {
            StruckWords x = Check.tongue("mark a;mark b;mark c;".substring(0, 7 * marks));
            for (int k = 0; k < marks; k++) {
                Check.due("mark " + k + " of " + marks, x.against(k), 0);
            }
            Check.due("as many as there are", x.against(marks), -1);
            Check.due("against(3)", x.against(3), -1);
            Check.due("against(-1)", x.against(-1), -1);
            for (int far : FAR) {
                Check.due("against(" + far + ")", x.against(far), -1);
            }
        }
    }

    private static void twice() {
        Edge.says("Promise 19", "What the TEXT MEANS TWICE by b and c (1 to N both);");
        StruckWords x = Check.tongue("edict 5 1;" + TURNING);
        Check.lay(x, 0, 1, 2, 3, 3, 3);
        Check.due("b z z z", x.twice(1, 2), 1 << 2);
        Check.due("b z", x.twice(3, 1), 1 << 2);
        Check.due("a b c z z", x.twice(5, 5), 1 << 7);
        Check.due("b c z z z, by 1", x.twice(1, 1), 1 << 4);
        Check.lay(x, 0);
        Check.due("nothing is left", x.twice(1, 5), 0);
        Check.due("nothing is left then", x.twice(5, 1), 0);
        Check.due("all is left", x.twice(5, 5), 2);
        Edge.says("Promise 19", "NONE: no such ones.");
        for (int n = 2; n <= 5; n++) {
            StruckWords y = Check.tongue("edict " + n + " 1;" + TURNING);
            Check.lay(y, 3, 3, 3, 3, 3, 3, 3, 3);
            Check.due("both N", y.twice(n, n), 1);
            Check.due("both 1", y.twice(1, 1), 1);
            for (int no : new int[] {0, -1, n + 1, Integer.MIN_VALUE, Integer.MAX_VALUE}) {
                Check.due("b " + no, y.twice(no, 1), -1);
                Check.due("c " + no, y.twice(1, no), -1);
                Check.due("both " + no, y.twice(no, no), -1);
            }
        }
    }

    private static void standIn() {
        Edge.says("Promise 20", "SAYINGS, as bits, that may STAND IN at place i (from 0; its own, too);");
        StruckWords x = Check.tongue(SETTING);
        Check.lay(x, 0, 0, 3);
        // z struck or not, a comes twice; b and c would be seen; at the third place a can come as well.
        Check.due("place 0", x.standIn(0), 1);
        Check.due("place 1", x.standIn(1), 1);
        Check.due("place 2", x.standIn(2), 1 | 8);
        Check.dueRow("the text stays", x, 0, 0, 0, 3);
        Check.lay(x, 3, 0, 0, 3, 0, 0, 0, 0, 0, 0, 0, 0, 0, 0, 0, 0, 0, 0, 0, 0, 0, 0, 0, 3);
        Check.due("the first of 24", x.standIn(0), 1 | 8);
        Check.due("the last of 24", x.standIn(23), 1 | 8);
        Edge.says("Promise 20", "NONE: no such place.");
        Check.due("place 24", x.standIn(24), -1);
        Check.due("place -1", x.standIn(-1), -1);
        Check.lay(x, 0, 0, 3);
        Check.due("place 3", x.standIn(3), -1);
        for (int far : FAR) {
            Check.due("place " + far, x.standIn(far), -1);
        }
        Check.lay(x);
        Check.due("no text", x.standIn(0), -1);
        Check.due("no tongue", new StruckWords().standIn(0), -1);
    }

    private static void safe() {
        Edge.says("Promise 21", "The MEANING for which it is SAFE;");
        StruckWords x = Check.tongue(SETTING);
        Check.lay(x, 3, 3);
        Check.due("safe for none set", x.safe(), 0);
        Check.lay(x, 0, 1, 2, 0, 1, 2, 0, 1, 2);
        Check.due("no: by each beginning one is struck each time", x.safe(), -1);
        Check.lay(x, 0, 1, 2, 3, 0, 1, 2);
        Check.due("safe for all set", x.safe(), 7);
        Edge.says("Promise 21", "NONE: it is not.");
        Check.lay(x, 3);
        Check.due("nothing is left by 1", x.safe(), -1);
        Check.lay(x, 0, 3);
        Check.due("by 1 it means another", x.safe(), -1);
        Check.lay(x);
        Check.due("no text", x.safe(), -1);
        Check.due("no tongue", new StruckWords().safe(), -1);
    }

    private static void known() {
        Edge.says("Promise 22", "KNOWN for MEANING m: what 0 above, 1 below");
        StruckWords x = Check.tongue("clerk 3 9;" + TURNING);
        Check.lay(x, 0, 0, 1);
        dueKnown(x, 3, 2, 11);
        dueKnown(x, 0, 9, 11);
        dueKnown(x, 7, 0, 1);
        Edge.says("Promise 22", "(0 by 1 without W).");
        StruckWords none = Check.tongue("edict 5 1;clerk 1 0;clerk 2 0;clerk 3 0;clerk 4 0;clerk 5 0;" + TURNING);
        Check.lay(none, 3, 3);
        for (int m = 0; m < 8; m++) {
            dueKnown(none, m, 0, 1);
        }
        StruckWords one = Check.tongue("edict 5 1;clerk 1 0;clerk 2 0;clerk 3 0;clerk 4 0;" + TURNING);
        Check.lay(one, 3, 3);
        dueKnown(one, 0, 1, 1);
        Edge.says("Promise 22", "NoSuchElementException: no such ones.");
        for (int no : new int[] {-1, 8, 9, Integer.MIN_VALUE, Integer.MAX_VALUE}) {
            Check.dueThrow("m " + no, () -> x.known(no, 0));
            Check.dueThrow("m " + no, () -> x.known(no, 1));
        }
        for (int no : new int[] {-1, 2, 3, Integer.MIN_VALUE, Integer.MAX_VALUE}) {
            Check.dueThrow("what " + no, () -> x.known(0, no));
            Check.dueThrow("what " + no, () -> x.known(8, no));
        }
        dueKnown(new StruckWords(), 7, 0, 1);
        Check.dueThrow("of a new object", () -> new StruckWords().known(8, 0));
    }

    private static void scans() {
        Edge.says("Promise 23", "The beginnings (0 to N, as bits) by which what is LEFT has k beats (0 to 216);");
        StruckWords x = Check.tongue("edict 5 1;word a beats 9;word b beats 0;word c;");
        Check.due("no text has no beats", x.scans(0), 63);
        Check.due("nor one", x.scans(1), 0);
        Check.lay(x, 0, 1, 2, 1, 0);
        Check.due("19 by 0, 2 and 4", x.scans(19), 1 | 4 | 16);
        Check.due("10 by 1 and 5", x.scans(10), 2 | 32);
        Check.due("18 by 3", x.scans(18), 8);
        Check.due("none has 9", x.scans(9), 0);
        Check.lay(x, new int[24]);
        Check.due("216 by 0", x.scans(216), 1);
        Check.due("171 by 1 to 4", x.scans(171), 2 | 4 | 8 | 16);
        Check.due("180 by 5", x.scans(180), 32);
        Check.lay(x, 1, 1);
        Check.due("0 by each", x.scans(0), 63);
        Edge.says("Promise 23", "NONE: not as told.");
        for (int no : new int[] {-1, 217, 218, Integer.MIN_VALUE, Integer.MAX_VALUE}) {
            Check.due("scans(" + no + ")", x.scans(no), -1);
            Check.due("of a new object", new StruckWords().scans(no), -1);
        }
        Check.due("scans(216)", x.scans(216), 0);
    }

    private static void letters() {
        Edge.says("Promise 24", "LETTERS of LEFT by b (0 to N);");
        StruckWords x = Check.tongue("edict 5 4;word a;word b;word ab;");
        Check.text(x, "ab ab a");
        // ababa: by 1 the fifth is left, by 2 the first, by 3 two, by 4 three, by 5 four.
        int[] due = {4, 1, 1, 2, 2, 4};
        for (int b = 0; b <= 5; b++) {
            Check.due("letters(" + b + ")", x.letters(b), due[b]);
        }
        Edge.says("Promise 24", "NONE: no such one.");
        for (int no : new int[] {-1, 6, 7, Integer.MIN_VALUE, Integer.MAX_VALUE}) {
            Check.due("letters(" + no + ")", x.letters(no), -1);
        }
        Check.due("letters(3) of N 2", Check.tongue("edict 2 1;").letters(3), -1);
        Check.due("letters(4) of a new object", new StruckWords().letters(4), -1);
        Check.due("letters(3) of a new object", new StruckWords().letters(3), 1);
    }
}
