/** Promises 4 and 5: TONGUES, their FAULTS and where they are. */
public final class TongueTest {
    private static final String MARKED = "mark m;sort a;word b;reads b a";

    public static void main(String[] args) {
        goodTongues();
        noTokens();
        tokensThatCannotCome();
        numbers();
        names();
        tooMany();
        theFirstFault();
        tooLong();
        whatStays();
        Check.end("TongueTest");
    }

    private static void goodTongues() {
        Check.dueTongue("", 0, 0);
        Check.dueTongue(" \n \n", 0, 0);
        Check.dueTongue("sort a;", 1, 0);
        Check.dueTongue("sort a begins ends;sort b ends begins;sort c ends;", 3, 0);
        Check.dueTongue("\nsort\na\n;\n mark b ; word c beats 0 weighs 60 costs 99 idle;", 3, 0);
        Check.dueTongue("sort abcdef;sort abcde;", 2, 0);
        Check.dueTongue("word b beats 09 weighs 01 costs 00;", 1, 0);
        Check.dueTongue("word b weighs 2;word c costs 3;word d idle;word e beats 1 idle;", 4, 0);
        Check.dueTongue("sort a;sort b;follow a b;follow b a;follow a a;follow b b;", 6, 0);
        Check.dueTongue(MARKED + " sets m clears m turns m sets m clears m turns m;", 4, 0);
        Check.dueTongue("edict 2 1;clerk 1 0;clerk 2 9;", 3, 0);
        Check.dueTongue("word a;edict 5 4;clerk 5 1;sort b;clerk 1 1;", 5, 0);
        Check.dueTongue("clerk 3 1;", 1, 0);
    }

    private static void noTokens() {
        Check.dueTongue(".", -1, 1);
        Check.dueTongue("sort A;", -6, 1);
        Check.dueTongue("sort a\t;", -7, 1);
        Check.dueTongue("sort abcdefg;", -6, 1);
        Check.dueTongue("sort a1;", -6, 1);
        Check.dueTongue("word b beats 1a;", -14, 1);
        Check.dueTongue("word b costs 100;", -14, 1);
        Check.dueTongue("sort a;\0", -8, 1);
        Check.dueTongue("sort a;\u00e9", -8, 1);
    }

    private static void tokensThatCannotCome() {
        Check.dueTongue(";", -1, 1);
        Check.dueTongue("sort a;;", -8, 1);
        Check.dueTongue("7", -1, 1);
        Check.dueTongue("noun a;", -1, 1);
        Check.dueTongue("begins a;", -1, 1);
        Check.dueTongue("idle;", -1, 1);
        Check.dueTongue("sort", -5, 1);
        Check.dueTongue("sort  ", -7, 1);
        Check.dueTongue("sort;", -5, 1);
        Check.dueTongue("sort a", -7, 1);
        Check.dueTongue("sort a begins", -14, 1);
        Check.dueTongue("sort 5;", -6, 1);
        Check.dueTongue("sort a mark b;", -8, 1);
        Check.dueTongue("mark a begins;", -8, 1);
        Check.dueTongue("mark a b;", -8, 1);
        for (String keyword : Naive.KEYWORDS) {
            Check.dueTongue("mark " + keyword + ";", -6, 1);
            Check.dueTongue("sort a;follow a " + keyword + ";", -17, 1);
        }
        Check.dueTongue("sort a;follow a;", -16, 1);
        Check.dueTongue("word b beats;", -13, 1);
        Check.dueTongue("word b beats c;", -14, 1);
        Check.dueTongue("word b weighs 1 beats 1;", -17, 1);
        Check.dueTongue("word b costs 1 weighs 1;", -16, 1);
        Check.dueTongue("word b beats 1 beats 1;", -16, 1);
        Check.dueTongue("word b idle idle;", -13, 1);
        Check.dueTongue("sort a;word b;reads b;", -22, 1);
        Check.dueTongue("sort a;word b;reads sets;", -21, 1);
        Check.dueTongue(MARKED + " sets;", -36, 1);
        Check.dueTongue(MARKED + " m;", -32, 1);
        Check.dueTongue(MARKED + " begins;", -32, 1);
        Check.dueTongue("edict;", -6, 1);
        Check.dueTongue("edict 3;", -8, 1);
        Check.dueTongue("edict 3 1 1;", -11, 1);
        Check.dueTongue("clerk 1;", -8, 1);
        Check.dueTongue("clerk a 1;", -7, 1);
        Check.dueTongue("clerk 1 1", -10, 1);
    }

    private static void numbers() {
        Check.dueTongue("word b beats 10;", -14, 2);
        Check.dueTongue("word b weighs 0;", -15, 2);
        Check.dueTongue("word b weighs 61;", -15, 2);
        Check.dueTongue("word b weighs 00;", -15, 2);
        Check.dueTongue("edict 1 1;", -7, 2);
        Check.dueTongue("edict 6 1;", -7, 2);
        Check.dueTongue("edict 3 3;", -9, 2);
        Check.dueTongue("edict 3 0;", -9, 2);
        Check.dueTongue("edict 2 2;", -9, 2);
        Check.dueTongue("clerk 0 1;", -7, 2);
        Check.dueTongue("clerk 4 1;", -7, 2);
        Check.dueTongue("edict 4 1;clerk 5 1;", -17, 2);
        Check.dueTongue("clerk 1 10;", -9, 2);
    }

    private static void names() {
        Check.dueTongue("sort a;sort a;", -13, 3);
        Check.dueTongue("sort a;mark a;", -13, 3);
        Check.dueTongue("mark a;word a;", -13, 3);
        Check.dueTongue("word a;sort a;", -13, 3);
        Check.dueTongue("sort a begins begins;", -15, 3);
        Check.dueTongue("sort a ends begins ends;", -20, 3);
        Check.dueTongue("sort a begins ends begins;", -20, 3);
        Check.dueTongue("follow a a;", -8, 3);
        Check.dueTongue("sort a;follow a b;sort b;", -17, 3);
        Check.dueTongue("sort a;mark b;follow b a;", -22, 3);
        Check.dueTongue("sort a;sort b;follow a b;follow b a;follow a b;", -46, 3);
        Check.dueTongue("sort a;reads b a;", -14, 3);
        Check.dueTongue("sort a;reads a a;", -14, 3);
        Check.dueTongue("sort a;word b;reads b b;", -23, 3);
        Check.dueTongue("sort a;word b;reads b a;reads b a;", -33, 3);
        Check.dueTongue("sort a;word b;reads b a sets a;", -30, 3);
        Check.dueTongue(MARKED + " sets n;", -37, 3);
        Check.dueTongue("edict 3 1;edict 3 1;", -11, 3);
        Check.dueTongue("clerk 1 1;edict 3 1;", -11, 3);
        Check.dueTongue("clerk 1 1;edict;", -11, 3);
        Check.dueTongue("clerk 1 1;clerk 2 1;clerk 1 1;", -27, 3);
    }

    private static void tooMany() {
        Check.dueTongue("sort a;sort b;sort c;sort d;sort e;", 5, 0);
        Check.dueTongue("sort a;sort b;sort c;sort d;sort e;sort f;", -36, 4);
        Check.dueTongue("sort a;sort b;sort c;sort d;sort e;sort a;", -36, 4);
        Check.dueTongue("sort a;sort b;sort c;sort d;sort e;sort", -36, 4);
        Check.dueTongue("mark a;mark b;mark c;", 3, 0);
        Check.dueTongue("mark a;mark b;mark c;mark 5;", -22, 4);
        Check.dueTongue("word a;word b;word c;word d;word e;word f;word g;word h;", 8, 0);
        Check.dueTongue("word a;word b;word c;word d;word e;word f;word g;word h; word i;", -58, 4);
        Check.dueTongue(MARKED + " sets m sets m sets m sets m sets m sets m turns m;", -74, 4);
        Check.dueTongue(MARKED + " sets m sets m sets m sets m sets m sets m clears;", -74, 4);
    }

    private static void theFirstFault() {
        Check.dueTongue("sort a;sort a;.", -13, 3);
        Check.dueTongue("sort .;sort a;sort a;", -6, 1);
        Check.dueTongue("edict 9 9;sort sort;", -7, 2);
    }

    private static String filled(String start, int size, String end) {
        StringBuilder text = new StringBuilder(start);
        while (text.length() < size) {
            text.append(' ');
        }
        return text.append(end).toString();
    }

    private static void tooLong() {
        Check.dueTongue(filled("sort a;", 900, ""), 1, 0);
        Check.dueTongue(filled("sort a;", 893, "sort b;"), 2, 0);
        Check.dueTongue(filled("sort a;", 901, ""), -901, 1);
        Check.dueTongue(filled("sort a;", 894, "sort b;"), -901, 1);
        Check.dueTongue(filled("sort a;", 940, ""), -901, 1);
        Check.dueTongue(filled("sort a", 900, ""), -901, 1);
        Check.dueTongue(filled("sort a", 920, ";"), -901, 1);
        Check.dueTongue(filled("sort a;sort", 897, "abcdef;"), -901, 1);
        Check.dueTongue(filled("sort a;sort", 897, "abcdefg;"), -898, 1);
        Check.dueTongue(filled("sort abcdef;sort", 897, "abcdef;"), -898, 3);
        Check.dueTongue(filled("sort abc;sort", 897, "abcdef;"), -901, 1);
        Check.dueTongue(filled("word a beats", 899, "10;"), -900, 2);
        Check.dueTongue(filled("word a beats", 899, "100;"), -900, 1);
        Check.dueTongue(filled("sort a;", 899, "$$"), -900, 1);
        Check.dueTongue(filled("sort a;", 900, "$"), -901, 1);
        Check.dueTongue(filled("sort a;sort a;", 940, ""), -13, 3);
    }

    private static void whatStays() {
        StruckWords x = Check.tongue("sort a;sort b;word c;");
        Check.text(x, "c c c");
        x.add();
        Check.dueTongue(x, "sort a;sort a;", -13, 3);
        Check.due("sorts stay", x.count(0), 2);
        Check.due("the text stays", x.count(5), 3);
        Check.due("the book stays", x.count(6), 1);
        Check.dueTongue(x, "edict 4 2;", 1, 0);
        Check.due("no sorts", x.count(0), 0);
        Check.due("no sayings", x.count(2), 0);
        Check.due("N", x.count(3), 4);
        Check.due("RUN", x.count(4), 2);
        Check.due("no text", x.count(5), 0);
        Check.due("no book", x.count(6), 0);
        Check.dueTongue(x, "", 0, 0);
        Check.due("N without an edict", x.count(3), 3);
        Check.due("RUN without an edict", x.count(4), 1);
        Check.dueTongue(x, ";", -1, 1);
        x.lay();
        Check.due("lay leaves the fault", x.fault(), 1);
        Check.dueText(x, "", 0, 0);
    }
}
