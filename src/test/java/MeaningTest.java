/** Promises 14, 15, 16, 17, 18, 20, 21 and 22. */
public final class MeaningTest {
    static final String SWITCH = "sort s begins ends;follow s s;mark p;mark q;"
        + "word on beats 2 weighs 3 costs 4;word off;word flip weighs 2 idle;word and beats 0 costs 0 idle;"
        + "reads on s sets p;reads off s clears p;reads flip s turns p;reads and s;";
    private static final String MANY = "sort a begins;sort b ends;sort c begins ends;mark m;mark n;"
        + "follow a b;follow c b;follow a c;follow c c;word x;word y;"
        + "reads x a sets m;reads x c;reads y b turns n;reads y c sets n clears m;";

    public static void main(String[] args) {
        oneReading();
        manyReadings();
        noReading();
        mostReadings();
        against();
        standIn();
        safe();
        known();
        noSuchOnes();
        Check.end("MeaningTest");
    }

    private static void dueByAll(StruckWords x, int[] means, int[] readings, int turns) {
        for (int b = 0; b < means.length; b++) {
            Check.due("means(" + b + ")", x.means(b), means[b]);
            Check.due("readings(" + b + ")", x.readings(b), readings[b]);
        }
        Check.due("turns", x.turns(), turns);
    }

    private static void oneReading() {
        StruckWords x = Check.tongue(SWITCH);
        Check.text(x, "on flip and off");
        dueByAll(x, new int[] {1, 2, 1, 1}, new int[] {1, 1, 1, 1}, 2);
        for (int i = 0; i < 4; i++) {
            Check.due("sortAt(0, " + i + ")", x.sortAt(0, i), 0);
        }
        Check.due("sortAt(1, 2)", x.sortAt(1, 2), -1);
    }

    private static void manyReadings() {
        StruckWords x = Check.tongue(MANY);
        Check.text(x, "x y");
        dueByAll(x, new int[] {12, 4, 1, 12}, new int[] {4, 1, 1, 4}, 6);
        Check.due("sortAt(0, 0)", x.sortAt(0, 0), 0);
        Check.due("sortAt(0, 1)", x.sortAt(0, 1), 1);
        Check.due("sortAt(1, 0)", x.sortAt(1, 0), 2);
        Check.due("sortAt(2, 0)", x.sortAt(2, 0), 2);
        Check.text(x, "y x");
        // y begins as c alone, x ends as c alone.
        dueByAll(x, new int[] {4, 1, 4, 4}, new int[] {1, 1, 1, 1}, 2);
        Check.text(x, "x x y");
        // a c b, a c c, c c b, c c c.
        Check.due("readings(0)", x.readings(0), 4);
        Check.due("means(0)", x.means(0), 1 << 3 | 1 << 2);
        Check.due("sortAt(0, 1)", x.sortAt(0, 1), 2);
        // The first of all readings begins with a, though c alone would be the shortest way on.
        Check.due("sortAt(0, 0)", x.sortAt(0, 0), 0);
    }

    private static void noReading() {
        StruckWords x = Check.tongue("sort a begins;sort b;sort c ends;follow a b;follow b c;word x;word y;word z;word o;"
            + "reads x a;reads y b;reads z c;");
        Check.text(x, "x y z");
        dueByAll(x, new int[] {1, 0, 0, 0}, new int[] {1, 0, 0, 0}, 14);
        Check.due("sortAt(0, 2)", x.sortAt(0, 2), 2);
        Check.due("sortAt(1, 0)", x.sortAt(1, 0), -1);
        Check.text(x, "x o y z");
        dueByAll(x, new int[] {0, 0, 1, 0}, new int[] {0, 0, 1, 0}, 4);
        Check.due("sortAt(0, 0)", x.sortAt(0, 0), -1);
        Check.due("sortAt(2, 2)", x.sortAt(2, 2), 2);
        Check.text(x, "");
        dueByAll(x, new int[] {0, 0, 0, 0}, new int[] {0, 0, 0, 0}, 0);
        Check.due("sortAt of no text", x.sortAt(0, 0), -1);
    }

    private static void mostReadings() {
        StruckWords x = Check.tongue("word w;mark m;" + Check.fiveThatFollow()
            + "reads w a;reads w b;reads w c;reads w d;reads w e turns m;");
        Check.tape(x, new byte[24]);
        x.lay();
        Check.due("5^24", x.readings(0), 59_604_644_775_390_625L);
        Check.due("5^16", x.readings(1), 152_587_890_625L);
        Check.due("means(0)", x.means(0), 3);
        Check.due("sortAt(0, 23)", x.sortAt(0, 23), 0);
        Check.due("sortAt(1, 16)", x.sortAt(1, 16), -1);
    }

    private static void against() {
        StruckWords x = Check.tongue(MANY);
        Check.text(x, "x y");
        Check.due("m is in some alone", x.against(0), 0);
        Check.due("n is in all, by 2 in none", x.against(1), 4);
        Check.due("against(2)", x.against(2), -1);
        Check.due("against(-1)", x.against(-1), -1);
        StruckWords y = Check.tongue(SWITCH);
        Check.text(y, "on flip and off");
        Check.due("set by what is left", y.against(0), 2);
        Check.due("set by none", y.against(1), 0);
        Check.text(y, "on");
        Check.due("nothing is left", y.against(0), 0);
        Check.text(y, "flip flip flip");
        Check.due("set by all of it", y.against(0), 14);
    }

    private static void standIn() {
        StruckWords x = Check.tongue(SWITCH);
        Check.text(x, "on flip and off");
        // off at the end clears p by 0, 2 and 3: it is by 1 that the second and third count.
        int[] due = {15, 5, 9, 2};
        for (int i = 0; i < 4; i++) {
            Check.due("standIn(" + i + ")", x.standIn(i), due[i]);
        }
        Check.due("standIn(4)", x.standIn(4), -1);
        Check.due("standIn(-1)", x.standIn(-1), -1);
        Check.due("the text stays", x.leftAt(0, 2), 3);
        Check.text(x, "on");
        Check.due("all of it counts, too", x.standIn(0), 1 | 4);
        Check.text(x, "and and on");
        // By 1 and 2 on sets p whatever is ahead of it; by 3 nothing comes behind it.
        Check.due("and so does the last beginning", x.standIn(0), 2 | 8);
        StruckWords none = Check.tongue("sort a;word x;word y;reads x a;");
        Check.text(none, "x x");
        Check.due("none has a reading, so all may stand in", none.standIn(1), 3);
    }

    private static void safe() {
        StruckWords x = Check.tongue(SWITCH);
        Check.text(x, "on on");
        Check.due("safe", x.safe(), 1);
        Check.text(x, "off and");
        Check.due("safe for 0", x.safe(), 0);
        Check.text(x, "on");
        Check.due("nothing is left by 1", x.safe(), -1);
        Check.text(x, "on off");
        Check.due("not all the same", x.safe(), -1);
        Check.text(x, "and and on");
        Check.due("the last beginning means another", x.safe(), -1);
        Check.text(x, "on flip flip on flip flip");
        // By 1 four times flip is left, by 2 and 3 on flip on flip.
        Check.due("safe for 0", x.safe(), 0);
        Check.text(x, "flip flip flip");
        Check.due("all of it means another", x.means(0), 2);
        Check.due("and yet safe", x.safe(), 0);
        StruckWords y = Check.tongue("sort a begins ends;sort b begins ends;follow a a;follow b b;mark m;word w;"
            + "reads w a;reads w b sets m;");
        Check.text(y, "w w w");
        Check.due("two meanings by each", y.means(1), 3);
        Check.due("so not safe", y.safe(), -1);
    }

    private static void dueKnown(StruckWords x, int m, int above, int below) {
        Check.due("known(" + m + ", 0)", x.known(m, 0), above);
        Check.due("known(" + m + ", 1)", x.known(m, 1), below);
    }

    private static void known() {
        StruckWords x = Check.tongue(SWITCH);
        Check.text(x, "on flip and off");
        dueKnown(x, 0, 2, 3);
        dueKnown(x, 1, 1, 3);
        dueKnown(x, 7, 0, 1);
        StruckWords y = Check.tongue(SWITCH + "clerk 2 4;clerk 3 0;");
        Check.text(y, "on flip and off");
        dueKnown(y, 0, 4, 5);
        dueKnown(y, 1, 1, 5);
        StruckWords z = Check.tongue(SWITCH + "clerk 1 3;clerk 2 4;clerk 3 2;");
        Check.text(z, "on flip and off");
        dueKnown(z, 0, 2, 3);
        dueKnown(z, 1, 1, 3);
        Check.text(z, "on on");
        dueKnown(z, 1, 1, 1);
        StruckWords none = Check.tongue(SWITCH + "edict 2 1;clerk 1 0;clerk 2 0;");
        Check.text(none, "on on");
        dueKnown(none, 1, 0, 1);
        Check.dueThrow("known(8, 0)", () -> x.known(8, 0));
        Check.dueThrow("known(-1, 0)", () -> x.known(-1, 0));
        Check.dueThrow("known(0, 2)", () -> x.known(0, 2));
        Check.dueThrow("known(0, -1)", () -> x.known(0, -1));
    }

    private static void noSuchOnes() {
        StruckWords x = Check.tongue(SWITCH + "edict 2 1;");
        Check.text(x, "on");
        for (int b : new int[] {-1, 3, 4, Integer.MAX_VALUE, Integer.MIN_VALUE}) {
            Check.due("means", x.means(b), -1);
            Check.due("readings", x.readings(b), -1);
            Check.due("sortAt", x.sortAt(b, 0), -1);
        }
        Check.due("sortAt(0, -1)", x.sortAt(0, -1), -1);
        Check.due("sortAt(0, 1)", x.sortAt(0, 1), -1);
        Check.due("sortAt(2, 0)", x.sortAt(2, 0), 0);
    }
}
