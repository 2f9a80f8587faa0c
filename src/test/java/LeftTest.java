/** Promises 12, 13, 19, 23 and 24: what is LEFT, TWICE, beats and LETTERS. */
public final class LeftTest {
    public static void main(String[] args) {
        left();
        twice();
        scans();
        letters();
        Check.end("LeftTest");
    }

    private static void dueLeft(String edict, int size, int b, int... places) {
        StruckWords x = Check.tongue(edict + "word a;word b;word c;word d;word e;word f;word g;word h;");
        int[] row = new int[size];
        for (int i = 0; i < size; i++) {
            row[i] = i % 8;
        }
        Check.tape(x, row);
        x.lay();
        Check.due(edict + "left(" + b + ") of " + size, x.left(b), places.length);
        for (int i = 0; i < places.length; i++) {
            Check.due(edict + "leftAt(" + b + ", " + i + ")", x.leftAt(b, i), (places[i] - 1) % 8);
        }
        Check.due("leftAt behind", x.leftAt(b, places.length), -1);
        Check.due("leftAt ahead", x.leftAt(b, -1), -1);
    }

    private static void left() {
        dueLeft("", 7, 0, 1, 2, 3, 4, 5, 6, 7);
        dueLeft("", 7, 1, 2, 3, 5, 6);
        dueLeft("", 7, 2, 1, 3, 4, 6, 7);
        dueLeft("", 7, 3, 1, 2, 4, 5, 7);
        dueLeft("edict 5 4;", 12, 1, 5, 10);
        dueLeft("edict 5 4;", 12, 4, 1, 2, 3, 8);
        dueLeft("edict 3 2;", 7, 3, 1, 2, 5);
        dueLeft("edict 3 2;", 4, 2, 1, 4);
        dueLeft("edict 2 1;", 5, 1, 2, 4);
        dueLeft("edict 2 1;", 5, 2, 1, 3, 5);
        dueLeft("edict 5 1;", 3, 5, 1, 2, 3);
        dueLeft("edict 5 1;", 3, 4, 1, 2, 3);
        dueLeft("", 0, 1);
        dueLeft("", 1, 1);
        dueLeft("edict 4 3;", 24, 2, 1, 5, 9, 13, 17, 21);
        StruckWords x = Check.tongue("edict 4 1;word a;");
        Check.due("left(5)", x.left(5), -1);
        Check.due("left(-1)", x.left(-1), -1);
        Check.due("left(4)", x.left(4), 0);
        Check.due("leftAt(5, 0)", x.leftAt(5, 0), -1);
    }

    private static void twice() {
        StruckWords x = Check.tongue("sort s begins ends;follow s s;mark l;mark m;mark n;word a;word b;word c;"
            + "reads a s turns l;reads b s turns m;reads c s turns n;");
        Check.text(x, "a b c a b");
        // By 1 b c b is left, by 2 a c a, by 3 a b a b.
        int[][] due = {{1 << 6, 1 << 0, 1 << 6}, {1 << 5, 1 << 0, 1 << 5}, {1 << 3, 1 << 2, 1 << 1}};
        for (int b = 1; b <= 3; b++) {
            for (int c = 1; c <= 3; c++) {
                Check.due("twice(" + b + ", " + c + ")", x.twice(b, c), due[b - 1][c - 1]);
            }
        }
        int[][] none = {{0, 1}, {1, 0}, {4, 1}, {1, 4}, {-1, 1}};
        for (int[] no : none) {
            Check.due("twice of none such", x.twice(no[0], no[1]), -1);
        }
        Check.text(x, "a");
        Check.due("twice of nothing left", x.twice(1, 1), 0);
        Check.due("twice of what is left", x.twice(2, 2), 2);
    }

    private static void scans() {
        StruckWords x = Check.tongue("word a beats 9;word b;word c beats 0;");
        Check.text(x, "a b c b");
        Check.due("scans(11)", x.scans(11), 1 | 8);
        Check.due("scans(1)", x.scans(1), 2);
        Check.due("scans(10)", x.scans(10), 4);
        Check.due("scans(0)", x.scans(0), 0);
        Check.due("scans(-1)", x.scans(-1), -1);
        Check.due("scans(217)", x.scans(217), -1);
        Check.tape(x, new byte[24]);
        x.lay();
        Check.due("scans(216)", x.scans(216), 1);
        Check.due("scans(144)", x.scans(144), 14);
    }

    private static void letters() {
        StruckWords x = Check.tongue("word a;word aa;");
        Check.text(x, "aa aa");
        int[] due = {5, 2, 3, 3};
        for (int b = 0; b <= 3; b++) {
            Check.due("letters(" + b + ")", x.letters(b), due[b]);
        }
        Check.due("letters(4)", x.letters(4), -1);
        Check.due("letters(-1)", x.letters(-1), -1);
        Check.text(x, "a");
        Check.due("letters of none left", x.letters(1), 1);
        Check.text(x, "");
        Check.due("letters of no text", x.letters(0), 1);

        StruckWords y = Check.tongue("word ab;word ba;word a;word abcdef;");
        Check.text(y, "ab ab");
        Check.due("abab", y.letters(0), 1);
        Check.due("ba of abab by 1", y.letters(1), 1);
        Check.due("aab of abab by 2", y.letters(2), 1);
        Check.due("abb of abab by 3", y.letters(3), 0);
        Check.text(y, "abcdef");
        Check.due("abcdef", y.letters(0), 1);
        Check.due("bcef", y.letters(1), 0);

        StruckWords z = Check.tongue("word aaaaaa;word a;word aaa;word aa;");
        Check.tape(z, new byte[24]);
        z.lay();
        Check.due("10^15", z.letters(0), 1_000_000_000_000_000L);
        for (int size = 1; size <= 24; size++) {
            byte[] threes = new byte[size];
            java.util.Arrays.fill(threes, (byte) 2);
            Check.tape(z, threes);
            z.lay();
            Check.due("letters of " + size + " threes", z.letters(0), waysOfSameLetter(3 * size));
            Check.due("letters by 1", z.letters(1), waysOfSameLetter(2 * size));
        }
    }

    /** Rows of 1, 2, 3 and 6 letters that make so many. */
    private static long waysOfSameLetter(int size) {
        java.math.BigInteger[] ways = new java.math.BigInteger[size + 1];
        for (int i = 0; i <= size; i++) {
            ways[i] = i == 0 ? java.math.BigInteger.ONE : java.math.BigInteger.ZERO;
            for (int step : new int[] {1, 2, 3, 6}) {
                ways[i] = i >= step ? ways[i].add(ways[i - step]) : ways[i];
            }
        }
        return ways[size].min(java.math.BigInteger.TEN.pow(15)).longValue();
    }
}
