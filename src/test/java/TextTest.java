/** Promises 5, 6, 7, 8, 9, 10 and 11: SAYINGS and TEXTS of them. */
public final class TextTest {
    public static void main(String[] args) {
        words();
        becomes();
        alike();
        texts();
        longTexts();
        lay();
        drawn();
        Check.end("TextTest");
    }

    private static void words() {
        StruckWords x = Check.tongue("sort a;sort b;word c beats 0 weighs 60 costs 99 idle;word d;word e beats 9 costs 0;"
            + "reads e b;reads e a;reads c a;");
        int[][] told = {{0, 60, 99, 1, 1}, {1, 1, 1, 0, 0}, {9, 1, 0, 0, 2}};
        for (int w = 0; w < 3; w++) {
            for (int what = 0; what < 5; what++) {
                Check.due("word(" + w + ", " + what + ")", x.word(w, what), told[w][what]);
            }
        }
        Check.dueThrow("word(3, 0)", () -> x.word(3, 0));
        Check.dueThrow("word(-1, 0)", () -> x.word(-1, 0));
        Check.dueThrow("word(0, 5)", () -> x.word(0, 5));
        Check.dueThrow("word(0, -1)", () -> x.word(0, -1));
        Check.dueThrow("word of a new object", () -> new StruckWords().word(0, 0));
        Check.due("throwing changes nothing", x.count(2), 3);
    }

    private static void becomes() {
        StruckWords x = Check.tongue("sort a;sort b;mark l;mark m;mark n;word w;word v;"
            + "reads w a sets m turns n;reads w b sets l clears l turns l sets m turns m clears n;reads v b;");
        int[] byA = {6, 7, 6, 7, 2, 3, 2, 3};
        int[] byB = {1, 1, 1, 1, 1, 1, 1, 1};
        for (int m = 0; m < 8; m++) {
            Check.due("becomes(0, 0, " + m + ")", x.becomes(0, 0, m), byA[m]);
            Check.due("becomes(0, 1, " + m + ")", x.becomes(0, 1, m), byB[m]);
            Check.due("becomes(1, 1, " + m + ")", x.becomes(1, 1, m), m);
            Check.due("becomes(1, 0, " + m + ")", x.becomes(1, 0, m), -1);
        }
        int[][] none = {{2, 0, 0}, {-1, 0, 0}, {0, 2, 0}, {0, -1, 0}, {0, 0, 8}, {0, 0, -1}, {0, 5, 0}, {8, 0, 0},
            {0, 32, 0}, {32, 0, 0}, {0, 0, 32}};
        for (int[] no : none) {
            Check.due("becomes of none such", x.becomes(no[0], no[1], no[2]), -1);
        }
        StruckWords few = Check.tongue("sort a;mark l;word w;reads w a sets l;");
        Check.due("a meaning is 0 to 7 with one mark, too", few.becomes(0, 0, 6), 7);
    }

    private static void alike() {
        StruckWords x = Check.tongue("sort a;sort b;mark m;word p;word q;word r;word s;word t;word u costs 9;word v;"
            + "reads v a clears m;reads p a sets m;reads q a clears m sets m;reads r b sets m;reads s a sets m;reads s b;"
            + "reads u a turns m clears m turns m;");
        int[] due = {35, 35, 4, 8, 16, 35, 64};
        for (int w = 0; w < 7; w++) {
            Check.due("alike(" + w + ")", x.alike(w), due[w]);
        }
        Check.due("alike(7)", x.alike(7), -1);
        Check.due("alike(-1)", x.alike(-1), -1);
        StruckWords y = Check.tongue("sort a;word p;word q;");
        Check.due("alike of two that read with none", y.alike(0), 3);
    }

    private static void texts() {
        StruckWords x = Check.tongue("sort a;mark m;word c;word dd;");
        Check.dueText(x, "c dd\nc  c ", 4, 0);
        Check.due("the second", x.leftAt(0, 1), 1);
        Check.dueText(x, "c x", -3, 3);
        Check.dueText(x, "c a", -3, 3);
        Check.dueText(x, "m", -1, 3);
        Check.dueText(x, "cdd", -1, 3);
        Check.dueText(x, "c sort", -3, 1);
        Check.dueText(x, "c;", -2, 1);
        Check.dueText(x, "c 5 x", -3, 1);
        Check.dueText(x, "c c1", -3, 1);
        Check.dueText(x, "c ccccccc", -3, 1);
        Check.dueText(x, "C", -1, 1);
        Check.dueText(x, "c\0", -2, 1);
        Check.due("the text stays", x.count(5), 4);
        Check.dueText(x, "", 0, 0);
        Check.due("an empty text", x.count(5), 0);
        Check.dueText(new StruckWords(), "c", -1, 3);
    }

    private static void longTexts() {
        StruckWords x = Check.tongue("word c;word abcdef;");
        String many = "c c c c c c c c c c c c c c c c c c c c c c c c ";
        Check.dueText(x, many, 24, 0);
        Check.dueText(x, many + "c", -49, 4);
        Check.dueText(x, many + "x", -49, 3);
        Check.dueText(x, many + "6", -49, 1);
        Check.dueText(x, many + "c x", -49, 4);
        StringBuilder blanks = new StringBuilder("c");
        while (blanks.length() < 200) {
            blanks.append(' ');
        }
        Check.dueText(x, blanks.toString(), 1, 0);
        Check.dueText(x, blanks + " ", -201, 1);
        Check.dueText(x, blanks + "c", -201, 1);
        Check.dueText(x, blanks.substring(0, 194) + "abcdef", 2, 0);
        Check.dueText(x, blanks.substring(0, 195) + "abcdef", -201, 1);
        Check.dueText(x, blanks.substring(0, 195) + "abcdeg", -196, 3);
        Check.dueText(x, blanks.substring(0, 199) + "ccccccc", -200, 1);
        Check.dueText(x, blanks.substring(0, 150) + "q" + blanks, -151, 3);
        Check.due("the text stays", x.count(5), 2);
    }

    private static void lay() {
        StruckWords x = Check.tongue("word c;word d;word e;");
        Check.tape(x, 2, 0, 1);
        Check.due("lay", x.lay(), 3);
        Check.due("the tape is empty", x.count(7), 0);
        Check.due("leftAt", x.leftAt(0, 0), 2);
        Check.due("leftAt", x.leftAt(0, 2), 1);
        Check.tape(x, 0, 3);
        Check.due("lay of no saying", x.lay(), -1);
        Check.due("the tape is empty", x.count(7), 0);
        Check.due("the text stays", x.count(5), 3);
        Check.tape(x, new byte[24]);
        Check.due("lay of 24", x.lay(), 24);
        Check.tape(x, new byte[25]);
        Check.due("lay of 25", x.lay(), -1);
        Check.due("the text stays", x.count(5), 24);
        Check.due("lay of an empty tape", x.lay(), 0);
        Check.due("an empty text", x.count(5), 0);
    }

    private static void drawn() {
        StruckWords x = Check.tongue("word c weighs 3;word d;word e weighs 60;");
        int[] seeds = {0, 1, -1, 12345, Integer.MIN_VALUE, Integer.MAX_VALUE};
        for (int seed : seeds) {
            Check.due("drawn", x.drawn(24, seed), 24);
            long now = seed;
            for (int i = 0; i < 24; i++) {
                now = now * 1103515245L + 12345L & 0xFFFFFFFFL;
                long draw = (now >> 8) % 64;
                Check.due("drawn " + i, x.leftAt(0, i), draw < 3 ? 0 : draw < 4 ? 1 : 2);
            }
        }
        Check.due("drawn(0)", x.drawn(0, 1), -1);
        Check.due("drawn(25)", x.drawn(25, 1), -1);
        Check.due("drawn(-1)", x.drawn(-1, 1), -1);
        Check.due("the text stays", x.count(5), 24);
        Check.due("drawn(1)", x.drawn(1, 1), 1);
        Check.due("one", x.count(5), 1);
        Check.due("no sayings", new StruckWords().drawn(1, 1), -1);
    }
}
