/** Promises 38, 39, 40, 41 and 42: the BOOK and images. */
public final class BookTest {
    public static void main(String[] args) {
        addAndTake();
        book();
        images();
        whatRestoreLeaves();
        Check.end("BookTest");
    }

    private static void addAndTake() {
        StruckWords x = Check.tongue(MeaningTest.SWITCH);
        Check.due("take of an empty book", x.take(0), -1);
        for (int c = 0; c < 10; c++) {
            Check.tape(x, new byte[c]);
            x.lay();
            Check.due("add", x.add(), c);
        }
        Check.due("an eleventh", x.add(), -1);
        Check.due("ten", x.count(6), 10);
        Check.due("take(3)", x.take(3), 3);
        Check.due("the text", x.count(5), 3);
        Check.due("take(0)", x.take(0), 0);
        Check.due("the text", x.count(5), 0);
        Check.due("take(10)", x.take(10), -1);
        Check.due("take(-1)", x.take(-1), -1);
        x.take(9);
        Check.text(x, "off");
        Check.due("the clause stays", x.take(9), 9);
        Check.due("of on's", x.leftAt(0, 0), 0);
    }

    private static void book() {
        StruckWords x = Check.tongue(MeaningTest.SWITCH);
        String[] clauses = {"on on", "on flip and off", "on", "", "flip flip flip"};
        int[] turns = {0, 2, 2, 0, 14};
        for (int c = 0; c < clauses.length; c++) {
            Check.text(x, clauses[c]);
            Check.due("turns", x.turns(), turns[c]);
            Check.due("add", x.add(), c);
        }
        Check.due("book(1)", x.book(1), 2 | 4 | 16);
        Check.due("book(2)", x.book(2), 16);
        Check.due("book(3)", x.book(3), 16);
        Check.due("book(0)", x.book(0), 2 | 4 | 16);
        Check.due("book(4)", x.book(4), -1);
        Check.due("book(-1)", x.book(-1), -1);
        StruckWords y = Check.tongue(MeaningTest.SWITCH);
        Check.text(y, "and and off on");
        y.add();
        Check.due("by 1 alone", y.book(1), 1);
        Check.due("not by 2", y.book(2), 0);
        Check.due("by any", y.book(0), 1);
        y.image(0);
        y.add();
        Check.due("both", y.book(0), 3);
        y.restore(0);
        Check.due("one again", y.book(0), 1);
    }

    private static void images() {
        StruckWords x = Check.tongue("edict 4 2;sort a;word w beats 5;word v;clerk 1 9;");
        Check.due("nothing is kept", x.restore(0), false);
        Check.text(x, "w v w");
        x.add();
        Check.due("image(0)", x.image(0), true);
        Check.due("image(2)", x.image(2), false);
        Check.due("image(-1)", x.image(-1), false);
        Check.text(x, "v");
        x.add();
        Check.dueTongue(x, "word u;", 1, 0);
        Check.due("image(1)", x.image(1), true);
        Check.text(x, "u");
        x.add();
        x.add();
        Check.due("restore(2)", x.restore(2), false);
        Check.due("restore(-1)", x.restore(-1), false);
        for (int again = 0; again < 2; again++) {
            Check.due("restore(0)", x.restore(0), true);
            int[] counts = {1, 0, 2, 4, 2, 3, 1, 0};
            for (int what = 0; what < 8; what++) {
                Check.due("count(" + what + ")", x.count(what), counts[what]);
            }
            Check.due("beats", x.word(0, 0), 5);
            Check.due("the text", x.leftAt(0, 1), 1);
            Check.due("clerks", x.known(0, 1), 1);
            Check.due("the clause", x.take(0), 3);
            Check.text(x, "v v");
            x.add();
            Check.due("restore(1)", x.restore(1), true);
            Check.due("one saying", x.count(2), 1);
            Check.due("no text", x.count(5), 0);
            Check.due("no clauses", x.count(6), 0);
            Check.due("N", x.count(3), 3);
        }
    }

    private static void whatRestoreLeaves() {
        StruckWords x = Check.tongue(MeaningTest.SWITCH + "clerk 2 8;clerk 1 0;");
        Check.text(x, "on on");
        x.image(0);
        Check.tape(x, 9, 1, 1, 1);
        Check.due("find", x.find(3), 2);
        Check.tape(x, 0);
        Check.due("torn", x.torn(1, 2), 4);
        Check.dueText(x, "x", -1, 3);
        Check.text(x, "on off");
        Check.dueText(x, "on off sort", -8, 1);
        x.feed(1, 2, 3, 4, 5);
        Check.due("restore", x.restore(0), true);
        Check.due("the tape stays", x.count(7), 20);
        Check.due("the fault stays", x.fault(), 1);
        Check.due("sure stays", x.sure(0), 2);
        Check.dueFound(x, 0, 0);
        Check.due("likeliest stays", x.likeliest(), 3);
        Check.due("the text is as kept", x.safe(), 1);
        Check.due("end(0)", x.end(0), true);
        Check.text(x, "on off");
        Check.due("clerks, too", x.known(1, 0), 8);
        Check.due("clerks, too", x.known(1, 1), 9);
    }
}
