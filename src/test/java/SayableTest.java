/** Promises 30, 31 and 32: what is SAYABLE, LINK and LENT. */
public final class SayableTest {
    public static void main(String[] args) {
        sayable();
        link();
        linkOfLikeOnes();
        lend();
        notAsTold();
        Check.end("SayableTest");
    }

    private static void sayable() {
        StruckWords x = Check.tongue("sort s begins ends;follow s s;mark m;mark n;word x;word y;"
            + "reads x s sets m;reads y s sets n;");
        Check.due("sayable(1)", x.sayable(1), 0);
        Check.due("sayable(2)", x.sayable(2), 2 | 4);
        Check.due("sayable(3)", x.sayable(3), 2 | 4);
        Check.due("sayable(4)", x.sayable(4), 2 | 4 | 8);
        Check.due("sayable(5)", x.sayable(5), 2 | 4 | 8);
        StruckWords y = Check.tongue("edict 5 4;sort s begins ends;follow s s;word x;reads x s;");
        Check.due("one is left of five", y.sayable(5), 1);
        Check.due("none is left of four by one", y.sayable(4), 0);
        StruckWords two = Check.tongue("sort a begins ends;sort b begins ends;follow a a;follow b b;mark m;word w;"
            + "reads w a;reads w b sets m;");
        Check.due("always two meanings", two.sayable(5), 0);
        Check.due("no sayings", new StruckWords().sayable(5), 0);
    }

    private static void link() {
        // Without a follow of a and a no two are read one behind the other: by 3 both are left of two.
        StruckWords x = Check.tongue("sort b;sort a begins ends;mark m;word x;word y;reads x a sets m;reads y a;");
        Check.due("nothing is sayable", x.sayable(4), 0);
        Check.due("a a", x.link(2), 11);
        Check.due("a a", x.link(4), 11);
        Check.due("in one nothing helps", x.link(1), -1);
        Check.due("the tongue stays", x.sayable(4), 0);
        Check.due("lend does not help", x.lend(4), -1);
        StruckWords all = Check.tongue("sort a begins ends;follow a a;word x;reads x a;");
        Check.due("all is told", all.link(4), -1);
        Check.due("no sorts", new StruckWords().link(4), -1);
    }

    private static void linkOfLikeOnes() {
        StruckWords x = Check.tongue("edict 2 1;sort a begins ends;sort b begins ends;mark m;mark n;word x;word y;word z;"
            + "reads x a sets m;reads y b sets n;reads z a;");
        Check.due("as it is", x.sayable(4), 1 | 2 | 4);
        // a b and b a both let x and y be said in one, as x x y y and as y y x x; a a and b b do not.
        Check.due("a b", x.link(4), 1);
        Check.due("not in three", x.link(3), -1);
    }

    private static void lend() {
        StruckWords x = Check.tongue("sort a begins;sort b ends;sort c begins ends;follow c c;mark m;word x;word y;"
            + "reads x a sets m;reads y b;");
        Check.due("nothing is sayable", x.sayable(4), 0);
        Check.due("x c", x.lend(2), 2);
        Check.due("in one nothing helps", x.lend(1), -1);
        Check.due("the tongue stays", x.sayable(4), 0);
        Check.due("x reads with one sort", x.word(0, 4), 1);
        Check.due("x does not read as c", x.becomes(0, 2, 0), -1);
        StruckWords y = Check.tongue("sort a begins ends;follow a a;mark m;word x;word y;reads x a sets m;");
        Check.due("m is sayable", y.sayable(2), 2);
        Check.due("y a", y.lend(2), 10);
        StruckWords all = Check.tongue("sort a begins ends;follow a a;word x;reads x a;");
        Check.due("all is told", all.lend(4), -1);
        Check.due("no sayings", new StruckWords().lend(4), -1);
    }

    private static void notAsTold() {
        StruckWords x = Check.tongue("sort a begins ends;mark m;word x;reads x a sets m;");
        for (int most : new int[] {0, -1, Integer.MIN_VALUE, Integer.MAX_VALUE}) {
            Check.due("sayable(" + most + ")", x.sayable(most), -1);
            Check.due("link(" + most + ")", x.link(most), -1);
            Check.due("lend(" + most + ")", x.lend(most), -1);
        }
        Check.due("sayable(6)", x.sayable(6), -1);
        Check.due("link(4)", x.link(4), 0);
        Check.due("link(5)", x.link(5), -1);
        StruckWords y = Check.tongue("sort a begins ends;follow a a;word x;");
        Check.due("lend(4)", y.lend(4), 0);
        Check.due("lend(5)", y.lend(5), -1);
    }
}
