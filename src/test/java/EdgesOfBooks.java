/** Promises 38 to 43, and the terms' sentences on the BOOK and what calls change. */
final class EdgesOfBooks {
    private static final String TERMS = "Terms";
    private static final String TURNING = "sort s begins ends;follow s s;mark m;word t;word z;reads t s turns m;reads z s;";

    private EdgesOfBooks() {
    }

    static void run() {
        bookIs();
        newTongue();
        throwingChangesNothing();
        add();
        take();
        book();
        image();
        restore();
        count();
        lastCall();
    }

    private static void bookIs() {
        Edge.says(TERMS, "A BOOK of clauses (10): TEXTS.");
        StruckWords x = Check.tongue(TURNING);
        for (int c = 0; c < 10; c++) {
            Check.lay(x, new int[2 * c]);
            Check.due("add", x.add(), c);
        }
        Check.lay(x, 1);
        Check.due("an eleventh", x.add(), -1);
        Check.due("ten", x.count(6), 10);
        for (int c = 9; c >= 0; c--) {
            Check.due("take(" + c + ")", x.take(c), 2 * c);
        }
        Check.lay(x, new int[24]);
        Check.due("a full book stays full", x.add(), -1);
    }

    private static void newTongue() {
        Edge.says(TERMS, "A new TONGUE has no TEXT (no SAYINGS), an empty BOOK.");
        StruckWords x = Check.tongue(TURNING);
        Check.lay(x, 0, 0);
        x.add();
        x.add();
        Check.dueTongue(x, TURNING, 7, 0);
        Check.due("no text", x.count(5), 0);
        Check.due("left", x.left(0), 0);
        Check.due("means", x.means(0), 0);
        Check.due("no clauses", x.count(6), 0);
        Check.due("take(0)", x.take(0), -1);
        Check.due("book(0)", x.book(0), 0);
        Check.due("the first clause then", x.add(), 0);
        Check.due("it has no sayings", x.take(0), 0);
        Check.dueTongue(x, "", 0, 0);
        Check.due("an empty tongue is a new one, too", x.count(6), 0);
    }

    private static void throwingChangesNothing() {
        Edge.says(TERMS, "A call that throws changes nothing.");
        StruckWords x = Check.tongue(TURNING);
        Check.lay(x, 0, 1, 0);
        x.add();
        Check.tape(x, 9, 1, 9, 9);
        Check.due("find", x.find(3), 2);
        Check.tape(x, 0);
        Check.due("torn", x.torn(1, 2), 2);
        Check.dueText(x, "#", -1, 1);
        x.feed(1, 2, 3, 4, 5);
        String shape = Check.shape(x);
        Check.dueThrow("word(2, 0)", () -> x.word(2, 0));
        Check.dueThrow("word(0, 5)", () -> x.word(0, 5));
        Check.dueThrow("known(8, 0)", () -> x.known(8, 0));
        Check.dueThrow("known(0, 2)", () -> x.known(0, 2));
        Check.dueShape("tongue, text and book stay", x, shape);
        Check.due("the tape stays", x.count(7), 20);
        Check.due("the fault stays", x.fault(), 1);
        Check.due("what torn told stays", x.sure(0), 3);
        Check.dueFound(x, 0, 0);
    }

    private static void add() {
        Edge.says("Promise 38", "The TEXT is a clause more of the BOOK: its number;");
        StruckWords x = Check.tongue(TURNING);
        Check.due("a text of none", x.add(), 0);
        Check.lay(x, 0, 1, 0);
        Check.due("the second", x.add(), 1);
        Check.dueRow("the text stays", x, 0, 0, 1, 0);
        Check.due("the same once more", x.add(), 2);
        Check.lay(x, 1, 1);
        x.take(1);
        Check.dueRow("a clause is as it was added", x, 0, 0, 1, 0);
        for (int c = 3; c < 10; c++) {
            Check.due("add", x.add(), c);
        }
        Edge.says("Promise 38", "NONE: there are 10.");
        String shape = Check.shape(x);
        Check.due("an eleventh", x.add(), -1);
        Check.due("a twelfth", x.add(), -1);
        Check.dueShape("nothing changes", x, shape);
        Check.dueTongue(x, TURNING, 7, 0);
        Check.due("a new book", x.add(), 0);
    }

    private static void take() {
        Edge.says("Promise 39", "Clause c is the TEXT now: how many SAYINGS;");
        StruckWords x = Check.tongue(TURNING);
        int[][] texts = {{}, {1}, {0, 1}, new int[24]};
        for (int[] text : texts) {
            Check.lay(x, text);
            x.add();
        }
        for (int c = 0; c < 4; c++) {
            Check.due("take(" + c + ")", x.take(c), texts[c].length);
            Check.dueRow("clause " + c, x, 0, texts[c]);
        }
        Check.due("the clauses stay", x.count(6), 4);
        x.take(2);
        Check.lay(x, 1, 1, 1);
        x.take(2);
        Check.dueRow("another text leaves the clause", x, 0, 0, 1);
        Edge.says("Promise 39", "NONE: no such one.");
        for (int c : new int[] {-1, 4, 5, 9, 10, Integer.MIN_VALUE, Integer.MAX_VALUE}) {
            Check.due("take(" + c + ")", x.take(c), -1);
            Check.dueRow("the text stays", x, 0, 0, 1);
        }
        Check.due("of an empty book", new StruckWords().take(0), -1);
    }

    private static void book() {
        Edge.says("Promise 40", "Clauses that TURN by beginning b (1 to N), as bits;");
        StruckWords x = Check.tongue("edict 5 1;" + TURNING);
        // Clause c turns by c and 1 alone; the last five by none, by all, and so on.
        int[][] texts = {{0, 1, 1, 1, 1}, {1, 0, 1, 1, 1}, {1, 1, 0, 1, 1}, {1, 1, 1, 0, 1}, {1, 1, 1, 1, 0}, {1, 1}, {},
            {0, 0, 0, 0, 0}, {0, 0}, {1, 1, 1, 1, 0}};
        for (int[] text : texts) {
            Check.lay(x, text);
            x.add();
        }
        int[] due = {0, 1 | 128 | 256, 2 | 128 | 256, 4 | 128, 8 | 128, 16 | 128 | 512};
        for (int b = 1; b <= 5; b++) {
            Check.due("book(" + b + ")", x.book(b), due[b]);
        }
        Check.dueRow("the text stays", x, 0, 1, 1, 1, 1, 0);
        Edge.says("Promise 40", "by any (b 0);");
        Check.due("book(0)", x.book(0), 1 | 2 | 4 | 8 | 16 | 128 | 256 | 512);
        Check.due("an empty book", Check.tongue(TURNING).book(0), 0);
        Edge.says("Promise 40", "NONE: no such one.");
        for (int b : new int[] {-1, 6, 7, Integer.MIN_VALUE, Integer.MAX_VALUE}) {
            Check.due("book(" + b + ")", x.book(b), -1);
        }
        StruckWords two = Check.tongue("edict 2 1;" + TURNING);
        Check.due("book(2)", two.book(2), 0);
        Check.due("book(3)", two.book(3), -1);
        Check.due("book(4) of a new object", new StruckWords().book(4), -1);
    }

    private static void image() {
        Edge.says("Promise 41", "TONGUE, TEXT and BOOK are kept in place k (0, 1): true;");
        StruckWords x = Check.tongue("edict 4 2;clerk 2 9;" + TURNING);
        Check.lay(x, 0, 1, 0, 0);
        x.add();
        x.add();
        String shape = Check.shape(x);
        Check.due("image(0)", x.image(0), true);
        Check.dueShape("they stay", x, shape);
        Check.dueTongue(x, "word p beats 5;", 1, 0);
        Check.lay(x, 0);
        Check.due("image(1)", x.image(1), true);
        String other = Check.shape(x);
        Check.dueTongue(x, "", 0, 0);
        Check.due("restore(0)", x.restore(0), true);
        Check.dueShape("as in place 0", x, shape);
        Check.due("its clerks", x.known(7, 1) == 1 && x.known(0, 1) >= 1, true);
        Check.due("restore(1)", x.restore(1), true);
        Check.dueShape("as in place 1", x, other);
        Check.due("kept anew", x.image(0), true);
        x.restore(0);
        Check.dueShape("the latest is kept", x, other);
        StruckWords full = Check.tongue(TURNING);
        for (int c = 0; c < 10; c++) {
            Check.lay(full, new int[24 - c]);
            full.add();
        }
        Check.due("a full book", full.image(0), true);
        Check.dueTongue(full, TURNING, 7, 0);
        full.restore(0);
        for (int c = 0; c < 10; c++) {
            Check.due("take(" + c + ")", full.take(c), 24 - c);
        }
        Check.due("it is full again", full.add(), -1);
        StruckWords empty = new StruckWords();
        Check.due("an empty tongue can be kept", empty.image(1), true);
        Check.dueTongue(empty, "sort a;", 1, 0);
        Check.due("and is restored", empty.restore(1), true);
        Check.due("no sorts", empty.count(0), 0);
        Edge.says("Promise 41", "false: no such one.");
        for (int k : new int[] {-1, 2, 3, Integer.MIN_VALUE, Integer.MAX_VALUE}) {
            Check.due("image(" + k + ")", x.image(k), false);
            Check.due("of a new object", new StruckWords().image(k), false);
        }
    }

    private static void restore() {
        Edge.says("Promise 42", "They are as kept in place k (the tape, and what other calls told last, stays): true;");
        StruckWords x = Check.tongue("clerk 1 0;clerk 3 7;" + TURNING);
        Check.lay(x, 1, 0);
        x.add();
        x.image(0);
        String shape = Check.shape(x);
        Check.tape(x, 9, 1, 9, 9);
        Check.due("find", x.find(3), 2);
        Check.tape(x, 1);
        Check.due("torn", x.torn(1, 2), 2);
        Check.dueTongue(x, "mark p;mark q;word a;word b;edict 2 1;clerk 1 5;", 6, 0);
        Check.dueText(x, "a a c", -5, 3);
        Check.lay(x, 1, 1);
        x.add();
        x.add();
        x.feed(0x00010001, 0, 0, 0, 0);
        x.end(4);
        Check.due("restore(0)", x.restore(0), true);
        Check.dueShape("as kept", x, shape);
        Check.due("clerks: by 2 and 3", x.known(0, 0) * 100 + x.known(0, 1), 108);
        Check.due("clerks: by 3", x.known(1, 0) * 100 + x.known(1, 1), 708);
        Check.due("the fault stays", x.fault(), 3);
        Check.due("sure stays", x.sure(0), 3);
        Check.dueFound(x, 0, 0);
        Check.due("likeliest stays", x.likeliest(), 1);
        Check.dueFound(x, 0, 1);
        Check.due("the tape stays", x.count(7), 4);
        Check.due("with its bytes", x.lay(), 4);
        Check.dueRow("with its bytes", x, 0, 0, 1, 0, 1);
        Check.due("the clause is as kept", x.take(0), 2);
        Check.due("restored once more", x.restore(0), true);
        Check.dueShape("as kept", x, shape);
        Edge.says("Promise 42", "false: no such one, or nothing is kept there.");
        for (int k : new int[] {-1, 2, 3, Integer.MIN_VALUE, Integer.MAX_VALUE}) {
            Check.due("restore(" + k + ")", x.restore(k), false);
        }
        Check.due("nothing is kept in 1", x.restore(1), false);
        Check.dueShape("all stays", x, shape);
        StruckWords y = Check.tongue(TURNING);
        y.image(1);
        Check.due("nothing is kept in 0", y.restore(0), false);
        Check.due("in 1 there is", y.restore(1), true);
        y.image(2);
        Check.due("nor by a place that is none", y.restore(2), false);
    }

    private static void count() {
        Edge.says("Promise 43", "0 SORTS, 1 MARKS, 2 SAYINGS, 3 N, 4 RUN, 5 SAYINGS of the TEXT, 6 clauses, 7 bytes of the tape.");
        StruckWords x = Check.tongue("edict 5 4;sort a;sort b;sort c;sort d;sort e;mark f;mark g;mark h;"
            + "word i;word j;word k;word l;word m;word n;word o;word p;");
        for (int c = 0; c < 10; c++) {
            x.add();
        }
        Check.lay(x, new int[24]);
        for (int i = 0; i < 47; i++) {
            x.feed(0, 0, 0, 0, 0);
        }
        int[] counts = {5, 3, 8, 5, 4, 24, 10, 940};
        int[] none = {0, 0, 0, 3, 1, 0, 0, 0};
        for (int what = 0; what < 8; what++) {
            Check.due("the most, " + what, x.count(what), counts[what]);
            Check.due("the least, " + what, new StruckWords().count(what), none[what]);
        }
        Edge.says("Promise 43", "NONE for another what.");
        for (int what : new int[] {-1, 8, 9, Integer.MIN_VALUE, Integer.MAX_VALUE}) {
            Check.due("count(" + what + ")", x.count(what), -1);
        }
    }

    private static void lastCall() {
        Edge.says("What it is", "An object is used for at most 512 calls after it has been made; what later calls answer is free.");
        StruckWords x = Check.tongue(TURNING);
        // feed, end and tongue; six calls each time; the last call that is promised is the 512th.
        int calls = 3 + (TURNING.length() - 1) / 20;
        for (; calls + 6 < 512; calls += 6) {
            Check.lay(x, 0, 1);
            Check.due("means", x.means(0), 2);
            Check.due("turns", x.turns(), 2);
            Check.due("image", x.image(calls % 2), true);
        }
        for (; calls < 511; calls++) {
            Check.due("restore", x.restore(0), true);
        }
        Check.due("the 512th call", x.turns(), 2);
    }
}
