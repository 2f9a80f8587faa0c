/** Promises 35 to 37, and the terms' sentences on TORN rows. */
final class EdgesOfTears {
    private static final String TERMS = "Terms";
    private static final String FREE = "sort s begins ends;follow s s;";
    private static final String SETTING = FREE + "mark l;mark m;mark n;word a weighs 2;word b weighs 3;word c;word z;"
        + "reads a s sets l;reads b s sets m;reads c s sets n;reads z s;";
    /** All follow all and all that is told reads as all. */
    private static final String MOST = most();

    private EdgesOfTears() {
    }

    static void run() {
        tornIs();
        meaningsOfAll();
        sureIs();
        likeliestIs();
        likeliestOfLikeOnes();
        torn();
        tornNone();
        sure();
        sureNone();
        likeliest();
        likeliestOfNone();
    }

    private static String most() {
        StringBuilder told = new StringBuilder("edict 5 4;").append(Check.fiveThatFollow());
        String eight = "pqrstuvw";
        for (char w : eight.toCharArray()) {
            told.append("word ").append(w).append(w == 'w' ? " weighs 60;" : ";");
        }
        for (char w : eight.toCharArray()) {
            for (char one : "abcde".toCharArray()) {
                told.append("reads ").append(w).append(' ').append(one).append(';');
            }
        }
        return told.toString();
    }

    private static long torn(StruckWords x, int b, int n, int... row) {
        Check.tape(x, row);
        return x.torn(b, n);
    }

    private static void tornIs() {
        Edge.says(TERMS, "TORN: a row is LEFT by beginning b of a row of n (1 to 12): all rows that it can be of: "
            + "how many READINGS they have in all;");
        StruckWords x = Check.tongue(SETTING);
        Check.due("?", torn(x, 1, 1), 4);
        Check.due("z", torn(x, 2, 1, 3), 1);
        Check.due("? a b ?", torn(x, 1, 4, 0, 1), 16);
        Check.due("a ? b", torn(x, 2, 3, 0, 1), 4);
        Check.due("twelve: four are struck", torn(x, 3, 12, 0, 0, 0, 0, 0, 0, 0, 0), 256);
        StruckWords chain = Check.tongue("sort a begins;sort b;sort c ends;follow a b;follow b b;follow b c;follow a c;"
            + "word x;word y;word o;reads x a;reads x b;reads y b;reads y c;");
        // x ? y: x is a; x between as b, y between as b; y ends as c: two rows of one READING each.
        Check.due("x ? y", torn(chain, 2, 3, 0, 1), 2);
        // ? o: o never reads.
        Check.due("? o", torn(chain, 1, 2, 2), 0);
        // ? ? of run 2: x y alone; y can't begin, x can't end.
        StruckWords two = Check.tongue("edict 3 2;sort a begins;sort b;sort c ends;follow a b;follow b c;follow a c;"
            + "word x;word y;reads x a;reads x b;reads y b;reads y c;");
        Check.due("? ?", torn(two, 1, 2), 1);
        // ? ? y: x x y and x y y as a b c.
        Check.due("? ? y", torn(two, 1, 3, 1), 2);
        StruckWords most = Check.tongue(MOST);
        Check.due("8^10 * 5^12", torn(most, 1, 12, 0, 7), 262_144_000_000_000_000L);
        Check.due("one of twelve", torn(most, 1, 1), 40);
        Check.due("thirteen", torn(most, 1, 13, 0, 0), -1);
        Check.due("none", torn(most, 1, 0), -1);
    }

    private static void meaningsOfAll() {
        Edge.says(TERMS, "MEANINGS of all these;");
        StruckWords x = Check.tongue(SETTING);
        torn(x, 1, 1);
        Check.due("?", x.sure(0), 1 | 2 | 4 | 16);
        torn(x, 1, 2, 0);
        Check.due("? a", x.sure(0), 1 << 1 | 1 << 3 | 1 << 5);
        torn(x, 3, 2, 0, 1);
        Check.due("a b", x.sure(0), 1 << 3);
        torn(x, 1, 7, 0, 1, 2, 3);
        Check.due("? a b ? c z ?", x.sure(0), 1 << 7);
        torn(x, 1, 10, 3, 3, 3, 3, 3, 3);
        Check.due("? z z ? z z ? z z ?", x.sure(0), 255);
        // SORT 1 and SORT 4 carry what was set ahead of them.
        StruckWords sorts = Check.tongue("sort a begins;sort b;sort c;sort d;sort e ends;follow a b;follow b e;mark l;mark m;mark n;"
            + "word p;word q;word r;word s;reads p a;reads q a sets l sets n;reads r b;reads r e;reads s b sets m;reads s e turns n;");
        torn(sorts, 1, 3, 2, 2);
        Check.due("? r r", sorts.sure(0), 1 | 1 << 5);
        torn(sorts, 1, 3, 3, 3);
        Check.due("? s s", sorts.sure(0), 1 << 6 | 1 << 3);
        torn(sorts, 3, 3, 1, 3);
        Check.due("q s ?", sorts.sure(0), 1 << 7 | 1 << 3);
    }

    private static void dueSure(StruckWords x, int meanings, int set, int not) {
        Check.due("sure(0)", x.sure(0), meanings);
        Check.due("sure(1)", x.sure(1), set);
        Check.due("sure(2)", x.sure(2), not);
    }

    private static void sureIs() {
        Edge.says(TERMS, "SURE: MARKS that are set in all these, those that are in none.");
        StruckWords x = Check.tongue(SETTING);
        torn(x, 1, 2, 2);
        dueSure(x, 1 << 4 | 1 << 5 | 1 << 6, 4, 0);
        torn(x, 3, 2, 0, 2);
        dueSure(x, 1 << 5, 5, 2);
        torn(x, 3, 1, 3);
        dueSure(x, 1, 0, 7);
        torn(x, 1, 7, 0, 1, 2, 3);
        dueSure(x, 1 << 7, 7, 0);
        StruckWords few = Check.tongue(FREE + "mark l;mark m;word z;reads z s;");
        torn(few, 1, 1);
        dueSure(few, 1, 0, 3);
        StruckWords without = Check.tongue(FREE + "word z;reads z s;");
        torn(without, 1, 1);
        dueSure(without, 1, 0, 0);
    }

    private static void likeliestIs() {
        Edge.says(TERMS, "LIKELIEST: of those with a READING the one with the greatest product of WEIGHS of the SAYINGS "
            + "that were struck;");
        StruckWords x = Check.tongue(SETTING);
        torn(x, 1, 4, 0, 1);
        Check.due("b a b b: those that are left do not count", x.likeliest(), 9);
        Check.dueFound(x, 1, 0, 1, 1);
        torn(x, 3, 2, 1, 1);
        Check.due("none was struck", x.likeliest(), 1);
        Check.dueFound(x, 1, 1);
        // The heaviest does not read; the next does not behind another.
        StruckWords chain = Check.tongue("edict 3 2;sort a begins ends;sort b begins ends;follow a b;follow b a;"
            + "word o weighs 60;word x weighs 9;word y weighs 7;word z;reads x a;reads y a;reads z b;");
        torn(chain, 1, 2);
        Check.due("x z", chain.likeliest(), 9);
        Check.dueFound(chain, 1, 3);
        torn(chain, 1, 3, 1);
        Check.due("x z x", chain.likeliest(), 9);
        Check.dueFound(chain, 1, 3, 1);
        // q can be d as well, which r could follow; but d does not follow a.
        StruckWords one = Check.tongue("edict 4 2;sort a begins;sort c;sort d;sort e ends;sort f ends;"
            + "follow a c;follow c f;follow d e;word p;word q;word r;word s;"
            + "reads p a;reads q c;reads q d;reads r e;reads s f;");
        Check.due("p ? ?", torn(one, 2, 3, 0), 1);
        Check.due("p q s", one.likeliest(), 1);
        Check.dueFound(one, 0, 1, 3);
        // Read as e it goes on with v, read as d with w, which weighs more.
        StruckWords two = Check.tongue("edict 4 3;sort a begins;sort d;sort e;sort f ends;sort g ends;"
            + "follow a d;follow a e;follow d f;follow e g;word p;word q;word v weighs 3;word w weighs 5;"
            + "reads p a;reads q e;reads q d;reads v g;reads w f;");
        Check.due("p ? ?", torn(two, 2, 3, 0), 2);
        Check.due("p q w", two.likeliest(), 5);
        Check.dueFound(two, 0, 1, 3);
        StruckWords most = Check.tongue(MOST);
        torn(most, 1, 12, 0, 7);
        Check.due("60^10", most.likeliest(), 604_661_760_000_000_000L);
        Check.dueFound(most, 7, 7, 7, 7, 0, 7, 7, 7, 7, 7, 7, 7);
    }

    private static void likeliestOfLikeOnes() {
        Edge.says(TERMS, "of like ones the first.");
        StruckWords x = Check.tongue(FREE + "word p;word q weighs 4;word r weighs 4;reads p s;reads q s;reads r s;");
        torn(x, 1, 4, 2, 0);
        Check.due("q r p q", x.likeliest(), 16);
        Check.dueFound(x, 1, 2, 0, 1);
        // u t and t u: 6 each, the first is that which has t ahead.
        StruckWords y = Check.tongue("edict 3 2;sort a begins ends;sort b begins ends;follow a b;follow b a;"
            + "word t weighs 2;word u weighs 3;reads t a;reads u b;");
        torn(y, 1, 2);
        Check.due("2 * 3", y.likeliest(), 6);
        Check.dueFound(y, 0, 1);
        StruckWords first = Check.tongue("sort a begins ends;follow a a;word o;word p;reads p a;");
        torn(first, 1, 2, 1);
        Check.due("o weighs as much, but does not read", first.likeliest(), 1);
        Check.dueFound(first, 1, 1);
        StruckWords most = Check.tongue(MOST.replace(" weighs 60", ""));
        torn(most, 1, 12, 3, 4);
        Check.due("all alike", most.likeliest(), 1);
        Check.dueFound(most, 0, 0, 0, 0, 3, 0, 0, 0, 0, 4, 0, 0);
    }

    private static void torn() {
        Edge.says("Promise 35", "TORN: how many READINGS there are of rows the tape's row can be of;");
        for (int n = 2; n <= 5; n++) {
            for (int run = 1; run < n; run++) {
                StruckWords x = Check.tongue("edict " + n + " " + run + ";" + FREE + "word p;word q;reads p s;reads q s;");
                for (int b = 1; b <= n; b++) {
                    for (int size = 1; size <= 12; size += 1 + size % 5) {
                        int struck = struckOf(n, run, b, size);
                        Check.due(n + " " + run + ": torn(" + b + ", " + size + ")",
                            torn(x, b, size, new int[size - struck]), 1L << struck);
                    }
                }
            }
        }
        Check.due("no rows without sayings", torn(new StruckWords(), 1, 1), 0);
        StruckWords none = Check.tongue("word p;");
        Check.due("no readings", torn(none, 1, 1), 0);
    }

    private static int struckOf(int n, int run, int b, int size) {
        int struck = 0;
        for (int from = b; from <= size; from += n) {
            struck += Math.min(run, size - from + 1);
        }
        return struck;
    }

    private static void tornNone() {
        Edge.says("Promise 35", "NONE: not as told (b 1 to N, n, as many as are LEFT of n).");
        for (int n = 2; n <= 5; n++) {
            StruckWords x = Check.tongue("edict " + n + " 1;" + FREE + "word p;reads p s;");
            Check.due("b N", torn(x, n, 1, 0), 1);
            for (int b : new int[] {0, -1, n + 1, Integer.MIN_VALUE, Integer.MAX_VALUE}) {
                Check.due("b " + b + " of " + n, torn(x, b, 1, 0), -1);
                Check.due("b " + b + " of " + n, torn(x, b, 1), -1);
            }
        }
        StruckWords x = Check.tongue(SETTING);
        Check.due("n 12", torn(x, 1, 12, new int[8]), 256);
        for (int n : new int[] {0, -1, 13, 14, Integer.MIN_VALUE, Integer.MAX_VALUE}) {
            Check.due("n " + n, torn(x, 1, n), -1);
            Check.due("n " + n, torn(x, 3, n, new int[9]), -1);
        }
        for (int size = 0; size <= 25; size++) {
            Check.due("of five three are left, not " + size, torn(x, 1, 5, new int[size]), size == 3 ? 16 : -1);
        }
        Check.due("4 is no saying", torn(x, 1, 2, 4), -1);
        Check.due("nor is it behind as many as are left", torn(x, 1, 2, 0, 4), -1);
        Check.due("nor ahead of them", torn(x, 1, 2, 4, 0), -1);
        Check.due("nor 255", torn(x, 1, 3, 0, 255), -1);
    }

    private static void sure() {
        Edge.says("Promise 36", "Of the latest torn() that was not NONE: 0 MEANINGS, as bits;");
        StruckWords x = Check.tongue(SETTING);
        torn(x, 3, 1, 0);
        Check.due("a", x.sure(0), 2);
        torn(x, 3, 1, 1);
        Check.due("b", x.sure(0), 4);
        Check.due("none", torn(x, 4, 1, 2), -1);
        Check.due("none", torn(x, 3, 1, 9), -1);
        Check.due("none", torn(x, 3, 13), -1);
        Check.due("that of b", x.sure(0), 4);
        Check.dueTongue(x, "word p;", 1, 0);
        Check.due("0 readings are not NONE", torn(x, 1, 1), 0);
        Check.due("no meanings", x.sure(0), 0);
        Edge.says("Promise 36", "1 MARKS that are SURE to be set, 2 to be not (0 both, if there is no MEANING).");
        StruckWords y = Check.tongue(SETTING.replace("word z;", "word z;word o;"));
        torn(y, 3, 2, 0, 1);
        dueSure(y, 1 << 3, 3, 4);
        torn(y, 1, 2, 1);
        dueSure(y, 1 << 2 | 1 << 3 | 1 << 6, 2, 0);
        Check.due("o does not read", torn(y, 1, 2, 4), 0);
        dueSure(y, 0, 0, 0);
    }

    private static void sureNone() {
        Edge.says("Promise 36", "NONE for another what, or ahead of any.");
        StruckWords x = Check.tongue(SETTING);
        for (int what = -1; what <= 3; what++) {
            Check.due("ahead of any, " + what, x.sure(what), -1);
        }
        Check.due("NONE is none", torn(x, 0, 1), -1);
        Check.due("ahead of any", x.sure(0), -1);
        torn(x, 1, 1);
        for (int what : new int[] {-1, 3, 4, Integer.MIN_VALUE, Integer.MAX_VALUE}) {
            Check.due("sure(" + what + ")", x.sure(what), -1);
        }
        Check.due("sure(2)", x.sure(2), 0);
    }

    private static void likeliest() {
        Edge.says("Promise 37", "LIKELIEST of it: the product;");
        StruckWords x = Check.tongue(SETTING);
        torn(x, 1, 4, 0, 0);
        Check.due("NONE changes nothing", torn(x, 1, 4, 0), -1);
        Check.due("3 * 3", x.likeliest(), 9);
        Check.due("asked again", x.likeliest(), 9);
        torn(x, 1, 1);
        Check.due("3", x.likeliest(), 3);
        Edge.says("Promise 37", "0: there is no row;");
        StruckWords none = Check.tongue("sort a begins;sort b ends;word p weighs 9;reads p a;");
        Check.due("no reading", torn(none, 1, 1), 0);
        Check.due("no row", none.likeliest(), 0);
        StruckWords empty = new StruckWords();
        torn(empty, 1, 1);
        Check.due("no sayings", empty.likeliest(), 0);
        Edge.says("Promise 37", "NONE ahead of any.");
        Check.due("a new object", new StruckWords().likeliest(), -1);
        StruckWords y = Check.tongue(SETTING);
        Check.due("NONE", torn(y, 4, 1), -1);
        Check.due("ahead of any", y.likeliest(), -1);
        Check.due("and no row", y.foundAt(0), -1);
    }

    private static void likeliestOfNone() {
        Edge.says("Promise 37", "(It is the latest row then, if there is one.)");
        StruckWords x = Check.tongue(SETTING.replace("word z;", "word z;word o;"));
        torn(x, 1, 3, 2, 3);
        Check.due("torn alone is not", x.foundAt(0), -1);
        Check.due("3", x.likeliest(), 3);
        Check.dueFound(x, 1, 2, 3);
        Check.due("o does not read", torn(x, 1, 2, 4), 0);
        Check.due("no row", x.likeliest(), 0);
        Check.dueFound(x, 1, 2, 3);
        Check.tape(x, 9, 9, 9, 9);
        Check.due("find", x.find(6), 1);
        Check.dueFound(x, 0);
        Check.due("no row", x.likeliest(), 0);
        Check.dueFound(x, 0);
        torn(x, 1, 12, 3, 3, 3, 3, 3, 3, 3, 3);
        Check.due("81", x.likeliest(), 81);
        Check.dueFound(x, 1, 3, 3, 1, 3, 3, 1, 3, 3, 1, 3, 3);
    }
}
