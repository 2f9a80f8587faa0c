import java.nio.charset.StandardCharsets;
import java.util.NoSuchElementException;

/** What all tests of the project use: answers compared with those due, and the tape filled. */
final class Check {
    private static int wrong = 0;
    private static int seen = 0;
    private static String about = "";

    private Check() {
    }

    static void due(String what, long got, long want) {
        seen++;
        if (got != want) {
            wrong++;
            if (wrong <= 50) {
                System.out.println(about + what + " answered " + got + ", due is " + want);
            }
        }
    }

    /** What is said ahead of each answer that is not as due, from here on. */
    static void about(String what) {
        about = what.isEmpty() ? "" : "[" + what + "] ";
    }

    static int seen() {
        return seen;
    }

    static void fail(String what) {
        wrong++;
        System.out.println(about + what);
    }

    static void due(String what, boolean got, boolean want) {
        due(what, got ? 1 : 0, want ? 1 : 0);
    }

    /** A call that may throw. */
    interface Call {
        long answer();
    }

    static void dueThrow(String what, Call call) {
        boolean threw = false;
        try {
            call.answer();
        } catch (NoSuchElementException e) {
            threw = true;
        }
        due(what + " throws", threw, true);
    }

    static boolean isAnyWrong() {
        return wrong > 0;
    }

    /** To be called last: ends the test. */
    static void end(String test) {
        System.out.println(test + ": " + seen + " answers, " + wrong + " not as due");
        if (wrong > 0 || seen == 0) {
            System.exit(1);
        }
    }

    static byte[] bytes(String text) {
        return text.getBytes(StandardCharsets.ISO_8859_1);
    }

    static byte[] bytes(int... numbers) {
        byte[] row = new byte[numbers.length];
        for (int i = 0; i < row.length; i++) {
            row[i] = (byte) numbers[i];
        }
        return row;
    }

    /** The tape, empty so far, has these bytes then. */
    static void tape(StruckWords x, byte[] row) {
        for (int i = 0; i < row.length; i += 20) {
            int[] five = new int[5];
            for (int k = 0; k < 20; k++) {
                int sign = i + k < row.length ? row[i + k] & 255 : 0;
                five[k / 4] |= sign << 24 - 8 * (k % 4);
            }
            due("feed", x.feed(five[0], five[1], five[2], five[3], five[4]), i + 20);
        }
        due("end", x.end(row.length), true);
    }

    static void tape(StruckWords x, String text) {
        tape(x, bytes(text));
    }

    static void tape(StruckWords x, int... numbers) {
        tape(x, bytes(numbers));
    }

    static StruckWords tongue(String text) {
        StruckWords x = new StruckWords();
        tape(x, text);
        due("tongue of " + text, x.tongue() >= 0, true);
        return x;
    }

    static void text(StruckWords x, String text) {
        tape(x, text);
        due("text of " + text, x.text() >= 0, true);
    }

    /** A TONGUE that is read (fault 0) or has a FAULT; the answer due is told. */
    static void dueTongue(StruckWords x, String text, int want, int fault) {
        tape(x, text);
        due("tongue of " + text, x.tongue(), want);
        due("fault of " + text, x.fault(), fault);
        due("tape behind " + text, x.count(7), 0);
    }

    static void dueTongue(String text, int want, int fault) {
        dueTongue(new StruckWords(), text, want, fault);
    }

    static void dueText(StruckWords x, String text, int want, int fault) {
        tape(x, text);
        due("text of " + text, x.text(), want);
        due("fault of " + text, x.fault(), fault);
        due("tape behind " + text, x.count(7), 0);
    }

    /** A TONGUE with one FAULT: a '^' stands just ahead of where it is due. */
    static void faultOfTongue(int kind, String marked) {
        dueTongue(marked.replace("^", ""), -1 - marked.indexOf('^'), kind);
    }

    static void faultOfText(StruckWords x, int kind, String marked) {
        dueText(x, marked.replace("^", ""), -1 - marked.indexOf('^'), kind);
    }

    static void goodTongue(int lines, String text) {
        dueTongue(text, lines, 0);
    }

    /** What can be asked of TONGUE, TEXT and BOOK in some fifty calls, to see that they stay. */
    static String shape(StruckWords x) {
        StringBuilder all = new StringBuilder();
        for (int what = 0; what < 7; what++) {
            all.append(x.count(what)).append(' ');
        }
        for (int what = 0; what < 10 && x.count(2) > what / 5; what++) {
            all.append(x.word(what / 5, what % 5)).append(' ');
        }
        for (int i = 0; i < x.left(0); i++) {
            all.append(x.leftAt(0, i)).append(' ');
        }
        for (int b = 0; b <= x.count(3); b++) {
            all.append(x.means(b)).append(' ').append(x.book(b)).append(' ');
        }
        return all.toString();
    }

    static void dueShape(String what, StruckWords x, String want) {
        String got = shape(x);
        due(what + " (" + got + ", not " + want + ")", got.equals(want), true);
    }

    static void dueRow(String what, StruckWords x, int b, int... row) {
        due(what + ", how many", x.left(b), row.length);
        for (int i = 0; i < row.length; i++) {
            due(what + ", at " + i, x.leftAt(b, i), row[i]);
        }
    }

    /** Five SORTS that begin and end, each of which may follow each. */
    static String fiveThatFollow() {
        StringBuilder told = new StringBuilder();
        for (char one : "abcde".toCharArray()) {
            told.append("sort ").append(one).append(" begins ends;");
        }
        for (char one : "abcde".toCharArray()) {
            for (char then : "abcde".toCharArray()) {
                told.append("follow ").append(one).append(' ').append(then).append(';');
            }
        }
        return told.toString();
    }

    static void lay(StruckWords x, int... row) {
        tape(x, row);
        due("lay", x.lay(), row.length);
    }

    /** A text of so many bytes: the start, blanks, the end. */
    static String filled(String start, int size, String end) {
        StringBuilder all = new StringBuilder(start);
        while (all.length() + end.length() < size) {
            all.append(' ');
        }
        return all.append(end).toString();
    }

    static void dueFound(StruckWords x, int... row) {
        for (int i = 0; i < row.length; i++) {
            due("foundAt(" + i + ")", x.foundAt(i), row[i]);
        }
        due("foundAt behind the row", x.foundAt(row.length), -1);
        due("foundAt(-1)", x.foundAt(-1), -1);
    }
}
