/** Promises 25, 26, 27, 28, 29 and 33: rows that have GOALS. */
public final class FindTest {
    private static final String EATS = "sort s begins;sort v;sort o ends;mark p;mark q;follow s v;follow v o;follow s o;"
        + "word he;word eats weighs 5 costs 2;word bread beats 2;word well idle;"
        + "reads he s;reads eats v sets p;reads bread o turns q;reads well o;reads well v;";

    public static void main(String[] args) {
        find();
        findNoReading();
        findNotAsTold();
        cheapest();
        cheapestOfLikeOnes();
        verse();
        verseNotAsTold();
        longer();
        other();
        Check.end("FindTest");
    }

    private static int find(StruckWords x, int most, int... goals) {
        Check.tape(x, goals);
        int found = x.find(most);
        Check.due("the tape is empty", x.count(7), 0);
        return found;
    }

    private static int cheapest(StruckWords x, int most, int... goals) {
        Check.tape(x, goals);
        int found = x.cheapest(most);
        Check.due("the tape is empty", x.count(7), 0);
        return found;
    }

    private static int verse(StruckWords x, int k, int most, int... goals) {
        Check.tape(x, goals);
        int found = x.verse(k, most);
        Check.due("the tape is empty", x.count(7), 0);
        return found;
    }

    private static void find() {
        StruckWords x = Check.tongue(MeaningTest.SWITCH);
        Check.dueFound(x);
        Check.due("find", find(x, 6, 9, 1, 1, 1), 2);
        Check.dueFound(x, 0, 0);
        Check.due("find", find(x, 2, 9, 0, 0, 0), 2);
        Check.dueFound(x, 1, 1);
        Check.due("find in too few", find(x, 1, 9, 0, 0, 0), -1);
        Check.dueFound(x, 1, 1);
        Check.due("all of it means another", find(x, 6, 1, 0, 0, 0), 3);
        Check.dueFound(x, 0, 2, 2);
        Check.due("anything", find(x, 1, 9, 9, 9, 9), 1);
        Check.dueFound(x, 0);
        Check.due("no mark q is ever set", find(x, 5, 2, 9, 9, 9), -1);
        Check.due("nor a mark that is not told", find(x, 3, 7, 9, 9, 9), -1);
        StruckWords six = Check.tongue("sort s begins ends;follow s s;mark m;mark n;mark o;word x;word y;word z;"
            + "reads x s sets m;reads y s sets n;reads z s sets o;");
        Check.due("each saying twice", find(six, 6, 9, 7, 7, 7), 6);
        Check.due("in five", find(six, 5, 9, 7, 7, 7), -1);
        Check.dueFound(six, 0, 0, 1, 1, 2, 2);
        Check.due("not a longer one", find(six, 6, 7, 9, 9, 9), 3);
        Check.dueFound(six, 0, 1, 2);
    }

    private static void findNoReading() {
        StruckWords x = Check.tongue(EATS);
        Check.due("he can't end", find(x, 6, 8, 9, 9, 9), 1);
        Check.dueFound(x, 0);
        Check.due("nothing is left by 1", find(x, 6, 9, 8, 8, 8), 1);
        Check.dueFound(x, 0);
        Check.due("all of it alone reads", find(x, 6, 3, 8, 2, 8), 3);
        Check.dueFound(x, 0, 1, 2);
        Check.due("all of it alone reads, by 2 nothing", find(x, 6, 3, 8, 8, 8), -1);
        StruckWords y = Check.tongue("sort a begins ends;follow a a;word x;word y;reads y a;");
        Check.due("x reads never", find(y, 4, 8, 0, 8, 8), 2);
        Check.dueFound(y, 0, 1);
    }

    private static void findNotAsTold() {
        StruckWords x = Check.tongue(EATS);
        Check.due("find", find(x, 6, 3, 9, 9, 9), 3);
        Check.due("a goal of 10", find(x, 6, 3, 9, 9, 10), -2);
        Check.due("a goal of 255", find(x, 6, 255, 9, 9, 9), -2);
        Check.due("too few", find(x, 6, 3, 9, 9), -2);
        Check.due("too many", find(x, 6, 3, 9, 9, 9, 9), -2);
        Check.due("none", find(x, 6), -2);
        Check.due("most 0", find(x, 0, 3, 9, 9, 9), -2);
        Check.due("most 7", find(x, 7, 3, 9, 9, 9), -2);
        Check.dueFound(x, 0, 1, 2);
        x.feed(0x03090909, 0x7F7F7F7F, 0, 0, 0);
        Check.due("end", x.end(4), true);
        Check.due("what was cut off does not count", x.find(6), 3);
        Check.due("no sayings", find(new StruckWords(), 6, 9, 9, 9, 9), -2);
        Check.due("no sayings", cheapest(new StruckWords(), 5, 9, 9, 9, 9), -2);
        Check.due("no sayings", verse(new StruckWords(), 0, 6, 9, 9, 9, 9), -2);
        StruckWords five = Check.tongue("edict 5 1;sort a begins ends;word w;reads w a;");
        Check.due("six goals", find(five, 2, 0, 9, 9, 9, 9, 9), 1);
        Check.due("four goals", find(five, 2, 0, 9, 9, 9), -2);
    }

    private static void cheapest() {
        StruckWords x = Check.tongue("sort s begins ends;follow s s;mark m;word x costs 5;word y costs 2;word z costs 2;"
            + "reads x s sets m;reads y s sets m;reads z s sets m;");
        Check.due("cheapest", cheapest(x, 5, 9, 1, 1, 1), 4);
        Check.dueFound(x, 1, 1);
        Check.due("find heeds no costs", find(x, 5, 9, 1, 1, 1), 2);
        Check.dueFound(x, 0, 0);
        Check.due("none", cheapest(x, 5, 9, 0, 0, 0), -1);
        Check.due("none in so few", cheapest(x, 1, 9, 1, 1, 1), -1);
        Check.dueFound(x, 0, 0);
        Check.due("most 0", cheapest(x, 0, 9, 1, 1, 1), -2);
        Check.due("most 6", cheapest(x, 6, 9, 1, 1, 1), -2);
        Check.due("a goal of 10", cheapest(x, 5, 9, 1, 1, 10), -2);
        Check.due("too few", cheapest(x, 5, 9, 1, 1), -2);
        StruckWords y = Check.tongue("sort s begins ends;follow s s;mark m;word x costs 99;word y costs 0;"
            + "reads x s sets m;reads y s turns m;");
        // y's that are odd by 0 and two of the beginnings can't be so by the third.
        Check.due("a longer one that costs less", cheapest(y, 5, 1, 9, 9, 0), 0);
        Check.dueFound(y, 1, 1, 1);
        Check.due("as long as may be", cheapest(y, 3, 1, 9, 9, 0), 0);
        Check.due("no such in two", cheapest(y, 2, 1, 9, 9, 0), -1);
    }

    private static void cheapestOfLikeOnes() {
        StruckWords x = Check.tongue("sort s begins;sort t ends;sort u begins ends;follow s t;mark m;"
            + "word y;word x costs 2;reads y s;reads y t sets m;reads x u sets m;");
        Check.due("both cost 2", cheapest(x, 5, 1, 9, 9, 9), 2);
        Check.dueFound(x, 1);
        Check.due("the longer one alone", cheapest(x, 5, 1, 8, 8, 9), 2);
        Check.dueFound(x, 0, 0);
    }

    private static void verse() {
        StruckWords x = Check.tongue("sort s begins ends;follow s s;mark m;word x beats 3;word y beats 2;word z;"
            + "reads x s sets m;reads y s sets m;reads z s sets m;");
        Check.due("one beat left by each beginning", verse(x, 1, 6, 9, 9, 9, 9), -1);
        Check.due("x x has 3, 3, 6", verse(x, 3, 6, 9, 1, 1, 9), -1);
        Check.due("three that strike alike", verse(x, 6, 6, 9, 1, 1, 1), 3);
        Check.dueFound(x, 0, 0, 0);
        Check.due("two", verse(x, 2, 6, 9, 1, 1, 1), 3);
        Check.dueFound(x, 2, 2, 2);
        Check.due("in too few", verse(x, 2, 2, 9, 1, 1, 1), -1);
        Check.due("four", verse(x, 4, 6, 9, 1, 1, 1), 3);
        Check.dueFound(x, 1, 1, 1);
        Check.due("five", verse(x, 5, 6, 9, 9, 9, 9), -1);
        Check.due("eight", verse(x, 8, 6, 9, 9, 9, 9), 6);
        Check.dueFound(x, 0, 0, 0, 2, 2, 2);
        Check.due("goals hold, too", verse(x, 4, 6, 9, 0, 9, 9), -1);
        StruckWords y = Check.tongue("sort s begins ends;follow s s;word x beats 9;word y beats 0;reads x s;reads y s;");
        Check.due("0 beats", verse(y, 0, 6, 9, 0, 9, 9), 2);
        Check.dueFound(y, 1, 1);
        Check.due("0 beats of nothing", verse(y, 0, 6, 9, 8, 9, 9), 1);
        Check.due("36 beats", verse(y, 36, 6, 9, 9, 9, 9), 6);
        Check.due("45 beats", verse(y, 45, 6, 9, 9, 9, 9), -1);
        Check.due("54 beats", verse(y, 54, 6, 9, 9, 9, 9), -1);
    }

    private static void verseNotAsTold() {
        StruckWords x = Check.tongue(EATS);
        Check.due("k -1", verse(x, -1, 6, 9, 9, 9, 9), -2);
        Check.due("k 55", verse(x, 55, 6, 9, 9, 9, 9), -2);
        Check.due("most 0", verse(x, 1, 0, 9, 9, 9, 9), -2);
        Check.due("most 7", verse(x, 1, 7, 9, 9, 9, 9), -2);
        Check.due("too few", verse(x, 1, 6, 9, 9, 9), -2);
        Check.due("a goal of 10", verse(x, 1, 6, 10, 9, 9, 9), -2);
        Check.dueFound(x);
        Check.due("find heeds no beats behind a verse", find(x, 6, 3, 9, 9, 9), 3);
    }

    private static void longer() {
        StruckWords x = Check.tongue(MeaningTest.SWITCH);
        Check.due("longer(1, 6)", x.longer(1, 6), 1);
        Check.due("longer(1, 2)", x.longer(1, 2), 1);
        Check.due("longer(1, 1)", x.longer(1, 1), -7);
        Check.due("longer(2, 6)", x.longer(2, 6), -7);
        Check.due("longer(8, 6)", x.longer(8, 6), -7);
        Check.due("longer(-1, 6)", x.longer(-1, 6), -7);
        Check.due("longer(1, 0)", x.longer(1, 0), -7);
        Check.due("longer(1, 7)", x.longer(1, 7), -7);
        Check.dueFound(x);
        Check.due("no sayings", new StruckWords().longer(0, 6), -7);
        Check.due("goals are no meanings", Check.tongue(EATS).longer(8, 6), -7);
        Check.due("goals are no meanings", Check.tongue(EATS).longer(9, 6), -7);
        StruckWords six = Check.tongue("sort s begins ends;follow s s;mark m;mark n;mark o;word x;word y;word z;"
            + "reads x s sets m;reads y s sets n;reads z s sets o;");
        Check.due("6 and 3", six.longer(7, 6), 3);
        Check.due("6 is too many", six.longer(7, 5), -7);
        StruckWords less = Check.tongue("sort a begins;sort b ends;follow a b;mark m;word w;word v;"
            + "reads w a;reads v b sets m;");
        Check.due("it can be said, but not struck", less.longer(1, 6), -7);
    }

    private static void other() {
        StruckWords x = Check.tongue(MeaningTest.SWITCH);
        Check.due("as told", x.other(3, 1, 1, 6), 2);
        Check.due("each second", x.other(2, 1, 1, 6), 2);
        Check.due("two of three", x.other(3, 2, 1, 6), 3);
        Check.due("four of five", x.other(5, 4, 1, 6), 5);
        Check.due("four of five in four", x.other(5, 4, 1, 4), -1);
        Check.due("three of four", x.other(4, 3, 0, 6), 4);
        Check.due("none", x.other(3, 1, 2, 6), -1);
        Check.due("none in one", x.other(2, 1, 1, 1), -1);
        int[][] none = {{1, 1, 0, 6}, {6, 1, 0, 6}, {3, 0, 0, 6}, {3, 3, 0, 6}, {2, 2, 0, 6}, {3, 1, 8, 6}, {3, 1, -1, 6},
            {3, 1, 0, 0}, {3, 1, 0, 7}};
        for (int[] no : none) {
            Check.due("other not as told", x.other(no[0], no[1], no[2], no[3]), -2);
        }
        Check.due("the edict stays", x.count(4), 1);
        Check.dueFound(x);
        Check.due("no sayings", new StruckWords().other(5, 4, 7, 6), -1);
    }
}
