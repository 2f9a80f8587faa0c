/** Promises 34, 35, 36 and 37: MEND, TORN, SURE and LIKELIEST. */
public final class MendTest {
    public static void main(String[] args) {
        mend();
        mendOfLikeOnes();
        mendSizes();
        torn();
        tornNotAsTold();
        sure();
        likeliest();
        mostTorn();
        whatIsKeptOfIt();
        Check.end("MendTest");
    }

    private static void mend() {
        StruckWords x = Check.tongue(MeaningTest.SWITCH);
        Check.text(x, "on on");
        Check.due("it is safe", x.mend(), 0);
        Check.dueFound(x, 0, 0);
        Check.text(x, "on");
        // on and flip: by 0 not set; flip on: set by 0, 1, 2 and 3.
        Check.due("one", x.mend(), 1);
        Check.dueFound(x, 2, 0);
        Check.due("the text stays", x.count(5), 1);
        Check.text(x, "off");
        Check.due("one", x.mend(), 1);
        Check.dueFound(x, 1, 3);
        StruckWords none = Check.tongue("sort a begins ends;follow a a;mark m;word x;word y;reads x a sets m;reads y a;");
        Check.text(none, "x");
        Check.due("no idle ones", none.mend(), -1);
        Check.dueFound(none);
        Check.text(none, "x x");
        Check.due("none are needed", none.mend(), 0);
        StruckWords whole = Check.tongue("sort a begins ends;follow a a;mark m;word x;reads x a turns m;");
        Check.text(whole, "x x x");
        Check.due("safe for 0", whole.safe(), 0);
        Check.due("but by 0 it means another", whole.mend(), -1);
    }

    private static void mendOfLikeOnes() {
        StruckWords x = Check.tongue("sort a begins ends;follow a a;mark m;word z idle;word x;word y idle;"
            + "reads z a;reads x a;reads y a;");
        Check.text(x, "x");
        Check.due("one", x.mend(), 1);
        Check.dueFound(x, 0, 1);
        StruckWords y = Check.tongue("sort a begins ends;follow a a;word x;word y idle;reads x a;reads y a;");
        Check.text(y, "x");
        Check.due("behind it", y.mend(), 1);
        Check.dueFound(y, 0, 1);
        StruckWords self = Check.tongue("sort a begins ends;follow a a;word x idle;word y idle;reads x a;reads y a;");
        Check.text(self, "y");
        Check.due("ahead of it", self.mend(), 1);
        Check.dueFound(self, 0, 1);
        StruckWords three = Check.tongue("edict 5 4;sort a begins ends;follow a a;word x;word y idle;reads x a;reads y a;");
        Check.text(three, "x x");
        Check.due("three", three.mend(), 3);
        Check.dueFound(three, 0, 0, 1, 1, 1);
        Check.text(three, "x");
        Check.due("four would be needed", three.mend(), -1);
        Check.dueFound(three, 0, 0, 1, 1, 1);
    }

    private static void mendSizes() {
        StruckWords x = Check.tongue("sort a begins ends;follow a a;word x idle;reads x a;");
        Check.due("no text", x.mend(), -2);
        Check.due("no tongue", new StruckWords().mend(), -2);
        Check.tape(x, new byte[10]);
        x.lay();
        Check.due("ten", x.mend(), 0);
        Check.tape(x, new byte[11]);
        x.lay();
        Check.due("eleven", x.mend(), -2);
        StruckWords y = Check.tongue("edict 2 1;sort a begins ends;follow a a;mark m;word x;word y idle;"
            + "reads x a turns m;reads y a clears m;");
        Check.tape(y, 0, 0, 0, 0, 0, 0, 0, 0, 0, 0);
        y.lay();
        Check.due("two into ten", y.mend(), 2);
        Check.dueFound(y, 0, 0, 0, 0, 0, 0, 0, 0, 0, 0, 1, 1);
        // By each beginning one of four is left, the last one of the last four.
        StruckWords z = Check.tongue("edict 4 3;sort a begins ends;follow a a;mark m;word x;word z;word y idle;"
            + "reads x a sets m;reads z a clears m;reads y a clears m;");
        Check.tape(z, 0, 0, 0, 0, 0, 0, 0, 0, 0, 1);
        z.lay();
        Check.due("three into ten", z.mend(), 3);
        Check.dueFound(z, 0, 0, 0, 0, 0, 0, 0, 0, 0, 1, 2, 2, 2);
    }

    private static long torn(StruckWords x, int b, int n, int... row) {
        Check.tape(x, row);
        long readings = x.torn(b, n);
        Check.due("the tape is empty", x.count(7), 0);
        return readings;
    }

    private static void dueSure(StruckWords x, int meanings, int set, int not) {
        Check.due("sure(0)", x.sure(0), meanings);
        Check.due("sure(1)", x.sure(1), set);
        Check.due("sure(2)", x.sure(2), not);
        Check.due("sure(3)", x.sure(3), -1);
        Check.due("sure(-1)", x.sure(-1), -1);
    }

    private static void torn() {
        StruckWords x = Check.tongue(MeaningTest.SWITCH);
        Check.due("torn, ahead of any", x.sure(0), -1);
        Check.due("likeliest, ahead of any", x.likeliest(), -1);
        Check.due("one of four", torn(x, 1, 1), 4);
        dueSure(x, 3, 0, 2);
        Check.due("on ?", torn(x, 2, 2, 0), 4);
        dueSure(x, 3, 0, 2);
        Check.due("? on", torn(x, 1, 2, 0), 4);
        dueSure(x, 2, 1, 2);
        Check.due("? on off ? flip", torn(x, 1, 5, 0, 1, 2), 16);
        dueSure(x, 3, 0, 2);
        Check.due("b behind all: nothing was struck", torn(x, 3, 2, 0, 1), 1);
        dueSure(x, 1, 0, 3);
        StruckWords y = Check.tongue("sort a begins ends;sort b begins ends;follow a b;follow b a;follow a a;mark m;"
            + "word x;word y;reads x a sets m;reads x b;reads y b;");
        // x y: a b; x x: a a, a b, b a; of y ? : y x: b a.
        Check.due("x ?", torn(y, 2, 2, 0), 4);
        dueSure(y, 2, 1, 0);
        Check.due("y ?", torn(y, 2, 2, 1), 1);
        dueSure(y, 2, 1, 0);
        Check.due("y y can't be", torn(y, 3, 2, 1, 1), 0);
        dueSure(y, 0, 0, 0);
    }

    private static void tornNotAsTold() {
        StruckWords x = Check.tongue(MeaningTest.SWITCH);
        Check.due("? on", torn(x, 1, 2, 0), 4);
        Check.due("b 0", torn(x, 0, 2, 0), -1);
        Check.due("b 4", torn(x, 4, 2, 0), -1);
        Check.due("b -1", torn(x, -1, 2, 0), -1);
        Check.due("n 0", torn(x, 1, 0), -1);
        Check.due("n -1", torn(x, 1, -1), -1);
        Check.due("n 13", torn(x, 1, 13, 0, 0, 0, 0, 0, 0, 0, 0), -1);
        Check.due("too few", torn(x, 1, 3, 0), -1);
        Check.due("too many", torn(x, 1, 3, 0, 0, 0), -1);
        Check.due("no saying", torn(x, 1, 2, 4), -1);
        Check.due("no saying behind one", torn(x, 1, 2, 0, 4), -1);
        Check.due("no saying behind two", torn(x, 1, 3, 0, 0, 4), -1);
        Check.due("b 4 of 2", torn(x, 4, 2, 0, 0), -1);
        Check.due("n far too large", torn(x, 1, Integer.MAX_VALUE, 0), -1);
        dueSure(x, 2, 1, 2);
        Check.due("no sayings at all", torn(new StruckWords(), 1, 1), 0);
    }

    private static void sure() {
        StruckWords x = Check.tongue("sort a begins ends;follow a a;mark l;mark m;mark n;word x;word y;"
            + "reads x a sets l turns m;reads y a sets l turns m sets n;");
        Check.due("? x", torn(x, 1, 2, 0), 2);
        dueSure(x, 1 << 1 | 1 << 5, 1, 2);
        Check.due("? ?", torn(x, 1, 1), 2);
        dueSure(x, 1 << 3 | 1 << 7, 3, 0);
    }

    private static void likeliest() {
        StruckWords x = Check.tongue("sort a begins ends;sort b begins ends;follow a b;follow b a;"
            + "word x weighs 7;word y weighs 5;word z weighs 5;reads x a;reads y b;reads z b;");
        Check.due("a ?", torn(x, 2, 2, 0), 2);
        Check.due("likeliest", x.likeliest(), 5);
        Check.dueFound(x, 0, 1);
        Check.due("y ? of x alone", torn(x, 2, 2, 1), 1);
        Check.due("likeliest", x.likeliest(), 7);
        Check.dueFound(x, 1, 0);
        Check.tape(x, 9, 9, 9, 9);
        Check.due("find", x.find(1), 1);
        Check.due("x x can't be", torn(x, 3, 2, 0, 0), 0);
        Check.due("no row", x.likeliest(), 0);
        Check.dueFound(x, 0);
        Check.due("nothing was struck", torn(x, 3, 2, 2, 0), 1);
        Check.due("the product of none", x.likeliest(), 1);
        Check.dueFound(x, 2, 0);
        StruckWords y = Check.tongue("edict 4 3;sort a begins;sort b;sort c ends;follow a b;follow b c;follow b b;"
            + "word u weighs 2;word v weighs 3;word w weighs 6;word e;"
            + "reads u b;reads v b;reads w a;reads w b;reads e c;");
        // w ? ? e: each ? is u, v or w, as b.
        Check.due("? ? ? e", torn(y, 1, 4, 3), 9);
        Check.due("6 * 6 * 6", y.likeliest(), 216);
        Check.dueFound(y, 2, 2, 2, 3);
        StruckWords like = Check.tongue("edict 3 2;sort a begins;sort b;sort c;sort d ends;follow a b;follow c d;"
            + "follow b d;word e;word u weighs 6;word v;word s weighs 2;word t weighs 3;"
            + "reads s a;reads t b;reads u a;reads v b;reads e d;");
        Check.due("? ? e", torn(like, 1, 3, 0), 4);
        Check.due("6 * 3", like.likeliest(), 18);
        Check.dueFound(like, 1, 4, 0);
        // q can be d as well, which r could follow; but d does not follow a.
        StruckWords one = Check.tongue("edict 4 2;sort a begins;sort c;sort d;sort e ends;sort f ends;"
            + "follow a c;follow c f;follow d e;word p;word q;word r;word s;"
            + "reads p a;reads q c;reads q d;reads r e;reads s f;");
        Check.due("p ? ?", torn(one, 2, 3, 0), 1);
        Check.due("likeliest", one.likeliest(), 1);
        Check.dueFound(one, 0, 1, 3);
    }

    private static void mostTorn() {
        StringBuilder told = new StringBuilder("edict 5 4;").append(Check.fiveThatFollow());
        for (char w : "fghijklm".toCharArray()) {
            told.append("word ").append(w).append(w == 'k' ? " weighs 60;" : ";");
        }
        for (char w : "fghijklm".toCharArray()) {
            for (char one : "abcde".toCharArray()) {
                told.append("reads ").append(w).append(' ').append(one).append(';');
            }
        }
        StruckWords x = Check.tongue(told.toString());
        Check.due("8^10 * 5^12", torn(x, 1, 12, 0, 1), 262_144_000_000_000_000L);
        Check.due("60^10", x.likeliest(), 604_661_760_000_000_000L);
        Check.dueFound(x, 5, 5, 5, 5, 0, 5, 5, 5, 5, 1, 5, 5);
    }

    private static void whatIsKeptOfIt() {
        StruckWords x = Check.tongue(MeaningTest.SWITCH);
        Check.due("? on", torn(x, 1, 2, 0), 4);
        Check.tape(x, "sort a;");
        Check.due("a new tongue", x.tongue(), 1);
        dueSure(x, 2, 1, 2);
        Check.due("likeliest of the row as it was torn", x.likeliest(), 3);
        Check.dueFound(x, 0, 0);
    }
}
