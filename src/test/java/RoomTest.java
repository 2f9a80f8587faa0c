import java.lang.management.ManagementFactory;
import java.util.Random;

/** No call throws what the document does not name, whatever comes; none makes objects; all end soon. */
public final class RoomTest {
    private static final int[] EDGES = {Integer.MIN_VALUE, -7, -2, -1, 0, 1, 2, 3, 4, 5, 6, 7, 8, 9, 10, 12, 13, 24, 25, 54,
        55, 216, 217, 900, 940, Integer.MAX_VALUE};

    public static void main(String[] args) {
        anyCalls();
        dearestCalls();
        Check.end("RoomTest");
    }

    private static void anyCalls() {
        Random random = new Random(5);
        for (int run = 0; run < 400; run++) {
            StruckWords x = new StruckWords();
            for (int call = 0; call < 512; call++) {
                if (call % 97 == 0) {
                    Check.tape(emptied(x), run % 2 == 0 ? MeaningTest.SWITCH + "edict 5 4;" : rich());
                    x.tongue();
                }
                boolean isFair = true;
                try {
                    anyCall(x, random);
                } catch (java.util.NoSuchElementException e) {
                    isFair = true;
                } catch (RuntimeException e) {
                    isFair = false;
                    e.printStackTrace(System.out);
                }
                Check.due("a call throws nothing of the machine's", isFair, true);
            }
        }
    }

    private static StruckWords emptied(StruckWords x) {
        x.end(0);
        return x;
    }

    private static int edge(Random random) {
        return EDGES[random.nextInt(EDGES.length)];
    }

    private static int small(Random random) {
        return random.nextInt(3) == 0 ? edge(random) : random.nextInt(5);
    }

    private static void anyCall(StruckWords x, Random random) {
        int a = small(random);
        int b = small(random);
        switch (random.nextInt(40)) {
            case 0: x.feed(edge(random), random.nextInt(), 0, 0x01010101, 0x09090909); break;
            case 1: x.end(a); break;
            case 2: x.end(random.nextInt(30)); break;
            case 3: x.word(a, b); break;
            case 4: x.becomes(a, b, small(random)); break;
            case 5: x.text(); break;
            case 6: x.lay(); break;
            case 7: x.alike(a); break;
            case 8: x.drawn(a, random.nextInt()); break;
            case 9: x.left(a); break;
            case 10: x.leftAt(a, b); break;
            case 11: x.means(a); break;
            case 12: x.readings(a); break;
            case 13: x.sortAt(a, b); break;
            case 14: x.turns(); break;
            case 15: x.against(a); break;
            case 16: x.twice(a, b); break;
            case 17: x.standIn(a); break;
            case 18: x.safe(); break;
            case 19: x.known(a, b); break;
            case 20: x.scans(a); break;
            case 21: x.letters(a); break;
            case 22: x.find(Math.min(a, 4)); break;
            case 23: x.cheapest(Math.min(a, 4)); break;
            case 24: x.verse(a, Math.min(b, 4)); break;
            case 25: x.longer(a, Math.min(b, 4)); break;
            case 26: x.foundAt(a); break;
            case 27: x.sayable(Math.min(a, 4)); break;
            case 28: x.link(Math.min(a, 3)); break;
            case 29: x.lend(Math.min(a, 3)); break;
            case 30: x.other(a, b, small(random), Math.min(small(random), 4)); break;
            case 31: x.mend(); break;
            case 32: x.torn(a, b); break;
            case 33: x.sure(a); break;
            case 34: x.likeliest(); break;
            case 35: x.add(); break;
            case 36: x.take(a); break;
            case 37: x.book(a); break;
            case 38: x.image(a); break;
            default: x.restore(a); break;
        }
    }

    private static String rich() {
        StringBuilder told = new StringBuilder("edict 5 1;mark m;");
        for (char one : "pqrst".toCharArray()) {
            told.append("sort ").append(one).append(" begins ends;");
        }
        for (char one : "pqrst".toCharArray()) {
            for (char then : "pqrs".toCharArray()) {
                told.append("follow ").append(one).append(' ').append(then).append(';');
            }
        }
        for (char w : "abcdefgh".toCharArray()) {
            told.append("word ").append(w).append(" idle;");
        }
        for (char w : "abcdefgh".toCharArray()) {
            told.append("reads ").append(w).append(" p;reads ").append(w).append(" q turns m;");
        }
        return told.toString();
    }

    private static void dearestCalls() {
        StruckWords x = Check.tongue(rich());
        Check.tape(x, 0, 1, 2, 3, 4, 5, 6, 7, 0, 1);
        Check.due("lay", x.lay(), 10);
        dearCalls(x);
        long from = allocated();
        for (int i = 0; i < 5; i++) {
            dearCalls(x);
        }
        long made = allocated() - from;
        Check.due("bytes made by calls: " + made, made < 20_000, true);
    }

    private static void dearCalls(StruckWords x) {
        x.feed(0x07070707, 0x07070000, 0, 0, 0);
        x.end(6);
        x.find(6);
        x.longer(7, 6);
        x.other(5, 1, 7, 6);
        x.sayable(5);
        x.link(4);
        x.lend(4);
        x.mend();
        x.image(0);
        x.restore(0);
        x.standIn(3);
        x.letters(1);
    }

    private static long allocated() {
        java.lang.management.ThreadMXBean bean = ManagementFactory.getThreadMXBean();
        return bean instanceof com.sun.management.ThreadMXBean
            ? ((com.sun.management.ThreadMXBean) bean).getThreadAllocatedBytes(Thread.currentThread().getId()) : 0;
    }
}
