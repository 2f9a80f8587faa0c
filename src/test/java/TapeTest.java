/** Promises 1, 2, 3 and 43. */
public final class TapeTest {
    public static void main(String[] args) {
        newObject();
        feed();
        end();
        count();
        Check.end("TapeTest");
    }

    private static void newObject() {
        StruckWords x = new StruckWords();
        int[] counts = {0, 0, 0, 3, 1, 0, 0, 0};
        for (int what = 0; what < 8; what++) {
            Check.due("new count(" + what + ")", x.count(what), counts[what]);
        }
        Check.due("new fault", x.fault(), 0);
        Check.due("new sure", x.sure(0), -1);
        Check.due("new likeliest", x.likeliest(), -1);
        Check.due("new foundAt", x.foundAt(0), -1);
        Check.due("NONE", StruckWords.NONE, -1);
    }

    private static void feed() {
        StruckWords x = new StruckWords();
        for (int i = 1; i <= 47; i++) {
            Check.due("feed " + i, x.feed(0, 0, 0, 0, 0), 20 * i);
        }
        Check.due("feed of a full tape", x.feed(0, 0, 0, 0, 0), -1);
        Check.due("tape stays", x.count(7), 940);
        Check.due("end(921)", x.end(921), true);
        Check.due("feed over 940", x.feed(0, 0, 0, 0, 0), -1);
        Check.due("end(920)", x.end(920), true);
        Check.due("feed up to 940", x.feed(0, 0, 0, 0, 0), 940);

        StruckWords y = Check.tongue("word a;word b;word c;word d;word e;word f;word g;word h;");
        Check.due("feed", y.feed(0x00010203, 0x04050607, 0x07060504, 0x03020100, 0x01000100), 20);
        Check.due("lay", y.lay(), 20);
        int[] order = {0, 1, 2, 3, 4, 5, 6, 7, 7, 6, 5, 4, 3, 2, 1, 0, 1, 0, 1, 0};
        for (int i = 0; i < 20; i++) {
            Check.due("the highest byte first, " + i, y.leftAt(0, i), order[i]);
        }
        Check.due("feed of bytes above 127", y.feed(0xFFFEFDFC, -1, -1, -1, -1), 20);
        Check.due("they are no sayings", y.lay(), -1);
        Check.due("the text stays", y.count(5), 20);
    }

    private static void end() {
        StruckWords x = new StruckWords();
        Check.due("end(0) of an empty tape", x.end(0), true);
        Check.due("end(1) of an empty tape", x.end(1), false);
        x.feed(1, 2, 3, 4, 5);
        Check.due("end(21)", x.end(21), false);
        Check.due("end(-1)", x.end(-1), false);
        Check.due("end at the least int", x.end(Integer.MIN_VALUE), false);
        Check.due("the tape stays", x.count(7), 20);
        Check.due("end(20)", x.end(20), true);
        Check.due("end(7)", x.end(7), true);
        Check.due("seven bytes", x.count(7), 7);
        Check.due("end(8) is gone", x.end(8), false);
        Check.due("feed goes on behind", x.feed(0, 0, 0, 0, 0), 27);
    }

    private static void count() {
        StruckWords x = Check.tongue("edict 5 3;sort a;sort b;mark m;word c;word d;word e;");
        Check.text(x, "c d");
        x.add();
        x.add();
        x.feed(0, 0, 0, 0, 0);
        int[] counts = {2, 1, 3, 5, 3, 2, 2, 20};
        for (int what = 0; what < 8; what++) {
            Check.due("count(" + what + ")", x.count(what), counts[what]);
        }
        Check.due("count(-1)", x.count(-1), -1);
        Check.due("count(8)", x.count(8), -1);
    }
}
