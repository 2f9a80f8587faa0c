import java.util.Arrays;
import java.util.NoSuchElementException;

/**
 * A tongue of words of which an edict strikes some: texts, what they mean in all their readings as
 * they are and by each beginning of the striking, and rows that mean what is told all the same.
 */
public final class StruckWords {
    public static final int NONE = -1;

    private static final int NOT_AS_TOLD = -2;
    private static final int NO_DIFFERENCE = -7;

    private static final int MOST_OF_TAPE = 940;
    private static final int MOST_OF_TONGUE = 900;
    private static final int MOST_OF_TEXT = 200;

    private static final int SORTS = 5;
    private static final int MARKS = 3;
    private static final int SAYINGS = 8;
    private static final int MEANINGS = 8;
    private static final int CHANGES = 6;
    private static final int LETTERS_OF_NAME = 6;

    private static final int MOST_SAID = 24;
    private static final int CLAUSES = 10;
    private static final int IMAGES = 2;
    private static final int LARGEST_N = 5;
    /** Room for what belongs to 0 (all) and to each beginning. */
    private static final int WIDE = LARGEST_N + 1;

    private static final int MOST_FOUND = 6;
    private static final int MOST_CHEAPEST = 5;
    private static final int MOST_COSTS = 99;
    private static final int ABOVE_ALL_COSTS = MOST_CHEAPEST * MOST_COSTS + 1;
    private static final int MOST_SAYABLE = 5;
    private static final int MOST_LENT = 4;
    private static final int MOST_TO_MEND = 10;
    private static final int MOST_PUT_IN = 3;
    private static final int MOST_WALKED = MOST_TO_MEND + MOST_PUT_IN;
    private static final int MOST_TORN = 12;
    private static final int MOST_BEATS = 216;
    private static final int MOST_VERSE_BEATS = 54;
    private static final long MOST_WAYS = 1_000_000_000_000_000L;

    /** GOALS above the MEANINGS; the last is none of the document's: one MEANING, whichever. */
    private static final int NO_READING = 8;
    private static final int ANYTHING = 9;
    private static final int ONE_MEANING = 10;

    private static final int FAULT_TOKEN = 1;
    private static final int FAULT_NUMBER = 2;
    private static final int FAULT_NAME = 3;
    private static final int FAULT_TOO_MANY = 4;

    private final Row tape = new Row(MOST_OF_TAPE);
    private final Reader reader = new Reader();
    private final Matter now = new Matter();
    private final Matter[] images = new Matter[] {new Matter(), new Matter()};
    private final boolean[] imaged = new boolean[IMAGES];
    private final Judge judge = new Judge();
    private final Finder finder = new Finder();
    private final Tear tear = new Tear();
    private final Row latest = new Row(MOST_WALKED);
    private final Tongue newTongue = new Tongue();
    private final Row newRow = new Row(MOST_SAID);
    private int latestFault;

    public StruckWords() {
    }

    public int feed(int a, int b, int c, int d, int e) {
        if (tape.size + 20 > MOST_OF_TAPE) {
            return NONE;
        }
        putBytes(a);
        putBytes(b);
        putBytes(c);
        putBytes(d);
        putBytes(e);
        return tape.size;
    }

    public boolean end(int n) {
        if (n < 0 || n > tape.size) {
            return false;
        }
        tape.size = n;
        return true;
    }

    public int tongue() {
        int lines = reader.readTongue(tape, newTongue);
        tape.size = 0;
        latestFault = reader.kindOfFault;
        if (lines >= 0) {
            now.begin(newTongue);
        }
        return lines;
    }

    public int fault() {
        return latestFault;
    }

    public int word(int w, int what) throws NoSuchElementException {
        Tongue tongue = now.tongue;
        if (!tongue.hasSaying(w) || what < 0 || what > 4) {
            throw new NoSuchElementException("no such saying, or nothing such of it");
        }
        switch (what) {
            case 0:
                return tongue.beats[w];
            case 1:
                return tongue.weighs[w];
            case 2:
                return tongue.costs[w];
            case 3:
                return tongue.idle >> w & 1;
            default:
                return Integer.bitCount(tongue.reads[w]);
        }
    }

    public int becomes(int w, int sort, int m) {
        Tongue tongue = now.tongue;
        if (!isMeaning(m) || !tongue.hasSaying(w) || !tongue.hasSort(sort) || !tongue.readsAs(w, sort)) {
            return NONE;
        }
        return tongue.made(w, sort, m);
    }

    public int text() {
        int said = reader.readText(tape, now.tongue, newRow);
        tape.size = 0;
        latestFault = reader.kindOfFault;
        if (said >= 0) {
            now.said.copyFrom(newRow);
        }
        return said;
    }

    public int lay() {
        boolean isRow = rowFromTape(MOST_SAID);
        if (!isRow) {
            return NONE;
        }
        now.said.copyFrom(newRow);
        return now.said.size;
    }

    public int alike(int w) {
        Tongue tongue = now.tongue;
        if (!tongue.hasSaying(w)) {
            return NONE;
        }
        int those = 0;
        for (int other = 0; other < tongue.sayings; other++) {
            if (tongue.readAlike(w, other)) {
                those |= 1 << other;
            }
        }
        return those;
    }

    public int drawn(int n, int seed) {
        Tongue tongue = now.tongue;
        int all = tongue.allWeighs();
        if (n < 1 || n > MOST_SAID || all <= 0) {
            return NONE;
        }
        now.said.size = 0;
        int x = seed;
        for (int i = 0; i < n; i++) {
            x = x * 1103515245 + 12345;
            now.said.put(tongue.weighedAt((x >>> 8) % all));
        }
        return n;
    }

    public int left(int b) {
        if (!isBeginningOrAll(b)) {
            return NONE;
        }
        return judge.strike(now, b).size;
    }

    public int leftAt(int b, int i) {
        if (!isBeginningOrAll(b)) {
            return NONE;
        }
        return judge.strike(now, b).atOrNone(i);
    }

    public int means(int b) {
        return isBeginningOrAll(b) ? judge.meansBy(now.tongue, now.said, b) : NONE;
    }

    public long readings(int b) {
        return isBeginningOrAll(b) ? judge.countReadings(now.tongue, judge.strike(now, b)) : NONE;
    }

    public int sortAt(int b, int i) {
        if (!isBeginningOrAll(b)) {
            return NONE;
        }
        Row struck = judge.strike(now, b);
        if (i < 0 || i >= struck.size || !judge.readFirst(now.tongue, struck)) {
            return NONE;
        }
        return judge.sortRead(i);
    }

    public int turns() {
        return judge.turnsOf(now.tongue, now.said);
    }

    public int against(int k) {
        if (k < 0 || k >= now.tongue.marks) {
            return NONE;
        }
        int all = judge.meansBy(now.tongue, now.said, 0);
        int beginnings = 0;
        for (int b = 1; b <= now.tongue.edict.n; b++) {
            if (areAgainst(all, judge.meansBy(now.tongue, now.said, b), k)) {
                beginnings |= 1 << b;
            }
        }
        return beginnings;
    }

    public int twice(int b, int c) {
        if (!isBeginning(b) || !isBeginning(c)) {
            return NONE;
        }
        return judge.meansBy(now.tongue, judge.strike(now, b), c);
    }

    public int standIn(int i) {
        if (i < 0 || i >= now.said.size) {
            return NONE;
        }
        newRow.copyFrom(now.said);
        int those = 0;
        for (int w = 0; w < now.tongue.sayings; w++) {
            newRow.at[i] = w;
            if (judge.meanTheSame(now.tongue, now.said, newRow)) {
                those |= 1 << w;
            }
        }
        return those;
    }

    public int safe() {
        int same = judge.meansBy(now.tongue, now.said, 1);
        for (int b = 2; b <= now.tongue.edict.n; b++) {
            if (judge.meansBy(now.tongue, now.said, b) != same) {
                return NONE;
            }
        }
        return Integer.bitCount(same) == 1 ? Integer.bitCount(same - 1) : NONE;
    }

    public int known(int m, int what) throws NoSuchElementException {
        if (!isMeaning(m) || what < 0 || what > 1) {
            throw new NoSuchElementException("no such meaning, or neither above nor below");
        }
        int knowing = 0;
        int all = 0;
        for (int b = 1; b <= now.tongue.edict.n; b++) {
            all += now.tongue.clerks[b];
            if (judge.meansBy(now.tongue, now.said, b) == 1 << m) {
                knowing += now.tongue.clerks[b];
            }
        }
        if (all == 0) {
            return what;
        }
        return inLeastNumbers(what == 0 ? knowing : all, knowing, all);
    }

    public int scans(int k) {
        if (k < 0 || k > MOST_BEATS) {
            return NONE;
        }
        int beginnings = 0;
        for (int b = 0; b <= now.tongue.edict.n; b++) {
            if (judge.beatsBy(now.tongue, now.said, b) == k) {
                beginnings |= 1 << b;
            }
        }
        return beginnings;
    }

    public long letters(int b) {
        return isBeginningOrAll(b) ? judge.waysOfLetters(now.tongue, now.said, b) : NONE;
    }

    public int find(int most) {
        return findWithBeats(NONE, most);
    }

    public int cheapest(int most) {
        if (!goalsFromTape() || most < 1 || most > MOST_CHEAPEST) {
            return NOT_AS_TOLD;
        }
        int costs = finder.seekCheapest(now.tongue, most);
        if (costs >= 0) {
            latest.copyFrom(finder.best);
        }
        return costs;
    }

    public int verse(int k, int most) {
        if (k < 0 || k > MOST_VERSE_BEATS) {
            tape.size = 0;
            return NOT_AS_TOLD;
        }
        return findWithBeats(k, most);
    }

    public int longer(int m, int most) {
        if (!isMeaning(m) || most < 1 || most > MOST_FOUND) {
            return NO_DIFFERENCE;
        }
        finder.wantByAll(m, ANYTHING);
        int whole = finder.seekShortest(now.tongue, now.tongue.edict, most);
        finder.wantByAll(ANYTHING, m);
        int struck = finder.seekShortest(now.tongue, now.tongue.edict, most);
        return whole < 0 || struck < 0 ? NO_DIFFERENCE : struck - whole;
    }

    public int foundAt(int i) {
        return latest.atOrNone(i);
    }

    public int sayable(int most) {
        return most < 1 || most > MOST_SAYABLE ? NONE : finder.collectSafe(now.tongue, most);
    }

    public int link(int most) {
        return mostSayableWith(true, most);
    }

    public int lend(int most) {
        return mostSayableWith(false, most);
    }

    public int other(int n, int run, int m, int most) {
        boolean isEdict = n >= 2 && n <= LARGEST_N && run >= 1 && run < n;
        if (!isEdict || !isMeaning(m) || most < 1 || most > MOST_FOUND) {
            return NOT_AS_TOLD;
        }
        finder.wantByAll(ANYTHING, m);
        return finder.seekShortestBy(now.tongue, n, run, most);
    }

    public int mend() {
        if (now.said.size < 1 || now.said.size > MOST_TO_MEND) {
            return NOT_AS_TOLD;
        }
        int putIn = finder.seekMended(now.tongue, now.said);
        if (putIn >= 0) {
            latest.copyFrom(finder.foundRow());
        }
        return putIn;
    }

    public long torn(int b, int n) {
        boolean isRow = rowFromTape(MOST_TORN);
        if (!isRow || !isBeginning(b) || n < 1 || n > MOST_TORN) {
            return NONE;
        }
        if (now.tongue.edict.leftOf(n, b) != newRow.size) {
            return NONE;
        }
        tear.look(now.tongue, newRow, b, n);
        return tear.readings;
    }

    public int sure(int what) {
        if (!tear.isThere) {
            return NONE;
        }
        switch (what) {
            case 0:
                return tear.meanings;
            case 1:
                return tear.surelySet;
            case 2:
                return tear.surelyNot;
            default:
                return NONE;
        }
    }

    public long likeliest() {
        if (!tear.isThere) {
            return NONE;
        }
        if (tear.product > 0) {
            latest.copyFrom(tear.likeliestRow);
        }
        return tear.product;
    }

    public int add() {
        if (now.clauses >= CLAUSES) {
            return NONE;
        }
        now.clause[now.clauses].copyFrom(now.said);
        now.clauses++;
        return now.clauses - 1;
    }

    public int take(int c) {
        if (c < 0 || c >= now.clauses) {
            return NONE;
        }
        now.said.copyFrom(now.clause[c]);
        return now.said.size;
    }

    public int book(int b) {
        if (!isBeginningOrAll(b)) {
            return NONE;
        }
        int those = 0;
        for (int c = 0; c < now.clauses; c++) {
            int turning = judge.turnsOf(now.tongue, now.clause[c]);
            if (b == 0 ? turning != 0 : (turning >> b & 1) != 0) {
                those |= 1 << c;
            }
        }
        return those;
    }

    public boolean image(int k) {
        if (k < 0 || k >= IMAGES) {
            return false;
        }
        images[k].copyFrom(now);
        imaged[k] = true;
        return true;
    }

    public boolean restore(int k) {
        if (k < 0 || k >= IMAGES || !imaged[k]) {
            return false;
        }
        now.copyFrom(images[k]);
        return true;
    }

    public int count(int what) {
        switch (what) {
            case 0:
                return now.tongue.sorts;
            case 1:
                return now.tongue.marks;
            case 2:
                return now.tongue.sayings;
            case 3:
                return now.tongue.edict.n;
            case 4:
                return now.tongue.edict.run;
            case 5:
                return now.said.size;
            case 6:
                return now.clauses;
            case 7:
                return tape.size;
            default:
                return NONE;
        }
    }

    /** LINK (a 'follow' more), or LENT (a 'reads' more). */
    private int mostSayableWith(boolean isFollow, int most) {
        if (most < 1 || most > MOST_LENT) {
            return NONE;
        }
        Tongue tongue = now.tongue;
        int mostSaid = Integer.bitCount(finder.collectSafe(tongue, most));
        int best = NONE;
        int firsts = isFollow ? tongue.sorts : tongue.sayings;
        for (int first = 0; first < firsts; first++) {
            for (int sort = 0; sort < tongue.sorts; sort++) {
                if (!tongue.isTold(isFollow, first, sort)) {
                    tongue.turnTold(isFollow, first, sort);
                    int said = Integer.bitCount(finder.collectSafe(tongue, most));
                    tongue.turnTold(isFollow, first, sort);
                    best = said > mostSaid ? 10 * first + sort : best;
                    mostSaid = Math.max(mostSaid, said);
                }
            }
        }
        return best;
    }

    private void putBytes(int number) {
        for (int shift = 24; shift >= 0; shift -= 8) {
            tape.put(number >>> shift & 255);
        }
    }

    private int findWithBeats(int beats, int most) {
        if (!goalsFromTape() || most < 1 || most > MOST_FOUND) {
            return NOT_AS_TOLD;
        }
        finder.wantBeats(beats);
        int found = finder.seekShortest(now.tongue, now.tongue.edict, most);
        finder.wantBeats(NONE);
        if (found > 0) {
            latest.copyFrom(finder.foundRow());
        }
        return found;
    }

    /** Empties the tape; its bytes are the finder's GOALS then, if the answer is true. */
    private boolean goalsFromTape() {
        int size = tape.size;
        tape.size = 0;
        if (size != now.tongue.edict.n + 1 || now.tongue.sayings == 0) {
            return false;
        }
        for (int b = 0; b < size; b++) {
            if (tape.at[b] > ANYTHING) {
                return false;
            }
            finder.want(b, tape.at[b]);
        }
        return true;
    }

    /** Empties the tape; its bytes are the SAYINGS of newRow then, if the answer is true. */
    private boolean rowFromTape(int most) {
        int size = tape.size;
        tape.size = 0;
        newRow.size = 0;
        if (size > most) {
            return false;
        }
        for (int i = 0; i < size; i++) {
            if (!now.tongue.hasSaying(tape.at[i])) {
                return false;
            }
            newRow.put(tape.at[i]);
        }
        return true;
    }

    private boolean isBeginning(int b) {
        return b >= 1 && b <= now.tongue.edict.n;
    }

    private boolean isBeginningOrAll(int b) {
        return b == 0 || isBeginning(b);
    }

    private static boolean isMeaning(int m) {
        return m >= 0 && m < MEANINGS;
    }

    private static boolean areAgainst(int one, int another, int mark) {
        if (one == 0 || another == 0) {
            return false;
        }
        int with = meaningsWith(mark);
        boolean inOneAlone = (one & with) == one && (another & with) == 0;
        boolean inAnotherAlone = (another & with) == another && (one & with) == 0;
        return inOneAlone || inAnotherAlone;
    }

    /** The MEANINGS in which a MARK is set, as bits. */
    private static int meaningsWith(int mark) {
        int those = 0;
        for (int m = 0; m < MEANINGS; m++) {
            if ((m >> mark & 1) != 0) {
                those |= 1 << m;
            }
        }
        return those;
    }

    /** What becomes of a number, one of those two, when they are divided by all that divides both. */
    private static int inLeastNumbers(int number, int above, int below) {
        for (int d = below; d > 1; d--) {
            if (above % d == 0 && below % d == 0) {
                return number / d;
            }
        }
        return number;
    }

    /** Numbers one behind the other: SAYINGS, or the bytes of the tape. */
    private static final class Row {
        final int[] at;
        int size;

        Row(int most) {
            at = new int[Math.max(most, 0)];
        }

        void put(int number) {
            if (size < at.length) {
                at[size] = number;
                size++;
            }
        }

        int atOrNone(int i) {
            return i >= 0 && i < size ? at[i] : NONE;
        }

        void copyFrom(Row row) {
            int taken = Math.min(row.size, at.length);
            System.arraycopy(row.at, 0, at, 0, taken);
            size = taken;
        }
    }

    /** How it is struck: of each N places RUN, from a beginning on. */
    private static final class Edict {
        int n = 3;
        int run = 1;

        void tell(int newN, int newRun) {
            n = newN;
            run = newRun;
        }

        /** Places are from 1 on; by 0 none is struck. */
        boolean strikes(int b, int place) {
            return b > 0 && n > 0 && place >= b && (place - b) % n < run;
        }

        int leftOf(int places, int b) {
            int those = 0;
            for (int place = 1; place <= places; place++) {
                if (!strikes(b, place)) {
                    those++;
                }
            }
            return those;
        }
    }

    /**
     * Words and what may follow what. A state of reading is a long: for each SORT that the latest
     * SAYING can have a byte with the MEANINGS so far, as bits; one byte more, START_SORT's, stands
     * for a row that has no SAYING yet.
     */
    private static final class Tongue {
        static final int START_SORT = SORTS;
        static final long START = 1L << 8 * START_SORT;

        static final int MARK_NAMES = SORTS;
        static final int SAYING_NAMES = SORTS + MARKS;

        int sorts;
        int marks;
        int sayings;
        final int[] names = new int[SORTS + MARKS + SAYINGS];
        final Edict edict = new Edict();
        /** W by beginning. */
        final int[] clerks = new int[WIDE];
        /** By SORT: 255 in each byte of a state from which it may be read. */
        final long[] ahead = new long[SORTS];
        /** 255 in each byte of a state whose SORT ends. */
        long ends;
        final int[] beats = new int[SAYINGS];
        final int[] weighs = new int[SAYINGS];
        final int[] costs = new int[SAYINGS];
        int idle;
        /** By SAYING: SORTS, as bits. */
        final int[] reads = new int[SAYINGS];
        /** By SAYING, SORT and MEANING: what becomes of it; itself, where it does not read so. */
        private final int[] makes = new int[SAYINGS * SORTS * MEANINGS];
        /** By SAYING and SORT: what becomes of each set of the lower four MEANINGS, of the upper four. */
        private final int[] makesOfSets = new int[SAYINGS * SORTS * 32];

        Tongue() {
            clear();
        }

        void clear() {
            sorts = 0;
            marks = 0;
            sayings = 0;
            edict.tell(3, 1);
            Arrays.fill(clerks, 1);
            Arrays.fill(ahead, 0L);
            ends = 0;
            idle = 0;
            Arrays.fill(reads, 0);
            for (int i = 0; i < makes.length; i++) {
                makes[i] = i % MEANINGS;
            }
        }

        void copyFrom(Tongue tongue) {
            sorts = tongue.sorts;
            marks = tongue.marks;
            sayings = tongue.sayings;
            System.arraycopy(tongue.names, 0, names, 0, names.length);
            edict.tell(tongue.edict.n, tongue.edict.run);
            System.arraycopy(tongue.clerks, 0, clerks, 0, clerks.length);
            System.arraycopy(tongue.ahead, 0, ahead, 0, ahead.length);
            ends = tongue.ends;
            System.arraycopy(tongue.beats, 0, beats, 0, beats.length);
            System.arraycopy(tongue.weighs, 0, weighs, 0, weighs.length);
            System.arraycopy(tongue.costs, 0, costs, 0, costs.length);
            idle = tongue.idle;
            System.arraycopy(tongue.reads, 0, reads, 0, reads.length);
            System.arraycopy(tongue.makes, 0, makes, 0, makes.length);
            System.arraycopy(tongue.makesOfSets, 0, makesOfSets, 0, makesOfSets.length);
        }

        boolean hasSaying(int w) {
            return w >= 0 && w < sayings;
        }

        boolean hasSort(int sort) {
            return sort >= 0 && sort < sorts;
        }

        boolean readsAs(int w, int sort) {
            return (reads[w] >> sort & 1) != 0;
        }

        void turnReads(int w, int sort) {
            reads[w] ^= 1 << sort;
        }

        boolean mayFollow(int one, int then) {
            return (ahead[then] >>> 8 * one & 1) != 0;
        }

        void turnFollow(int one, int then) {
            ahead[then] ^= 255L << 8 * one;
        }

        /** A 'follow' of two SORTS, or a 'reads' of a SAYING and a SORT. */
        boolean isTold(boolean isFollow, int first, int sort) {
            return isFollow ? mayFollow(first, sort) : readsAs(first, sort);
        }

        void turnTold(boolean isFollow, int first, int sort) {
            if (isFollow) {
                turnFollow(first, sort);
            } else {
                turnReads(first, sort);
            }
        }

        boolean mayEnd(int sort) {
            return (ends >>> 8 * sort & 1) != 0;
        }

        int made(int w, int sort, int m) {
            return makes[(w * SORTS + sort) * MEANINGS + m];
        }

        /** One change more: a MARK is kept as 'keeps' has it, then turned as 'flips' has it. */
        void change(int w, int sort, int keeps, int flips) {
            int from = (w * SORTS + sort) * MEANINGS;
            for (int m = from; m < from + MEANINGS; m++) {
                makes[m] = makes[m] & keeps ^ flips;
            }
        }

        /** To be called when all changes are told. */
        void settle() {
            for (int pair = 0; pair < SAYINGS * SORTS; pair++) {
                for (int set = 0; set < 32; set++) {
                    makesOfSets[pair * 32 + set] = madeOfFour(pair * MEANINGS + (set >> 4) * 4, set & 15);
                }
            }
        }

        private int madeOfFour(int from, int set) {
            int made = 0;
            for (int i = 0; i < 4; i++) {
                if ((set >> i & 1) != 0) {
                    made |= 1 << makes[from + i];
                }
            }
            return made;
        }

        boolean readAlike(int w, int another) {
            if (reads[w] != reads[another]) {
                return false;
            }
            int size = SORTS * MEANINGS;
            for (int i = 0; i < size; i++) {
                if (makes[w * size + i] != makes[another * size + i]) {
                    return false;
                }
            }
            return true;
        }

        int allWeighs() {
            int all = 0;
            for (int w = 0; w < sayings; w++) {
                all += weighs[w];
            }
            return all;
        }

        /** The first SAYING for which the WEIGHS up to it are above the draw. */
        int weighedAt(int draw) {
            int upTo = 0;
            for (int w = 0; w < sayings - 1; w++) {
                upTo += weighs[w];
                if (upTo > draw) {
                    return w;
                }
            }
            return sayings - 1;
        }

        /** The state of reading when SAYING w has come; 0: it can't be read. */
        long stepped(long state, int w) {
            long result = 0;
            int sortsOf = state == 0 ? 0 : reads[w];
            for (int sort = 0; sort < sorts; sort++) {
                if ((sortsOf >> sort & 1) != 0) {
                    int meanings = anyOf(state & ahead[sort]);
                    int pair = (w * SORTS + sort) * 32;
                    int made = makesOfSets[pair + (meanings & 15)] | makesOfSets[pair + 16 + (meanings >> 4)];
                    result |= (long) made << 8 * sort;
                }
            }
            return result;
        }

        /** What a row MEANS that ends in a state. */
        int meant(long state) {
            return anyOf(state & ends);
        }

        private static int anyOf(long state) {
            long folded = state | state >>> 32;
            folded |= folded >>> 16;
            folded |= folded >>> 8;
            return (int) folded & 255;
        }
    }

    /** TONGUE, TEXT and BOOK: what an image keeps. */
    private static final class Matter {
        final Tongue tongue = new Tongue();
        final Row said = new Row(MOST_SAID);
        final Row[] clause = new Row[CLAUSES];
        int clauses;

        Matter() {
            for (int c = 0; c < CLAUSES; c++) {
                clause[c] = new Row(MOST_SAID);
            }
        }

        void begin(Tongue newTongue) {
            tongue.copyFrom(newTongue);
            said.size = 0;
            clauses = 0;
        }

        void copyFrom(Matter matter) {
            tongue.copyFrom(matter.tongue);
            said.copyFrom(matter.said);
            clauses = matter.clauses;
            for (int c = 0; c < clauses; c++) {
                clause[c].copyFrom(matter.clause[c]);
            }
        }
    }

    /** The words that a TONGUE is told with. */
    private enum Keyword {
        SORT("sort"), BEGINS("begins"), ENDS("ends"), MARK("mark"), FOLLOW("follow"), WORD("word"),
        BEATS("beats"), WEIGHS("weighs"), COSTS("costs"), IDLE("idle"), READS("reads"), SETS("sets"),
        CLEARS("clears"), TURNS("turns"), EDICT("edict"), CLERK("clerk");

        private static final Keyword[] ALL = values();

        private final int code;

        Keyword(String letters) {
            int sum = 0;
            for (int i = 0; i < letters.length(); i++) {
                sum = Tokens.withLetter(sum, letters.charAt(i));
            }
            code = sum;
        }

        /** null: the WORD is a NAME. */
        static Keyword of(int code) {
            for (int i = 0; i < ALL.length; i++) {
                if (ALL[i].code == code) {
                    return ALL[i];
                }
            }
            return null;
        }
    }

    /** The TOKENS of a tape, one at a time. */
    private static final class Tokens {
        static final int END = 0;
        static final int WORD = 1;
        static final int NUMBER = 2;
        static final int CLOSE = 3;
        static final int NO_TOKEN = 4;

        private Row tape;
        private int most;
        private int behind;
        /** Of the TOKEN at hand. */
        int kind;
        int place;
        /** The NUMBER; of a WORD its letters, five bits each. */
        int value;
        /** The Keyword that a WORD is, or null. */
        Keyword keyword;

        static int withLetter(int code, int letter) {
            return code << 5 | letter - 'a' + 1;
        }

        /** The i-th (from 0) letter, from the last one on, of a WORD's code; 0: it has fewer. */
        static int letterFromLast(int code, int i) {
            return code >>> 5 * i & 31;
        }

        void begin(Row newTape, int newMost) {
            tape = newTape;
            most = newMost;
            behind = 0;
            advance();
        }

        boolean isTooLong() {
            return tape.size > most;
        }

        void advance() {
            int stop = Math.min(tape.size, most);
            place = Math.min(behind, stop);
            while (place < stop && (tape.at[place] == ' ' || tape.at[place] == '\n')) {
                place++;
            }
            int letters = 0;
            int digits = 0;
            value = 0;
            int at = place;
            for (; place < stop && at < tape.size && isOfWord(tape.at[at]); at++) {
                boolean isDigit = tape.at[at] <= '9';
                value = isDigit ? value * 10 + tape.at[at] - '0' : withLetter(value, tape.at[at]);
                letters += isDigit ? 0 : 1;
                digits += isDigit ? 1 : 0;
            }
            behind = Math.max(at, place + 1);
            kind = place >= stop ? END : kindOf(letters, digits);
            keyword = kind == WORD ? Keyword.of(value) : null;
        }

        private int kindOf(int letters, int digits) {
            if (letters == 0 && digits == 0) {
                return tape.at[place] == ';' ? CLOSE : NO_TOKEN;
            }
            if (digits == 0) {
                return letters <= LETTERS_OF_NAME ? WORD : NO_TOKEN;
            }
            return letters == 0 && digits <= 2 ? NUMBER : NO_TOKEN;
        }

        private static boolean isOfWord(int sign) {
            return sign >= '0' && sign <= '9' || sign >= 'a' && sign <= 'z';
        }
    }

    /** Reads TONGUES and TEXTS, up to the first FAULT. */
    private static final class Reader {
        private final Tokens tokens = new Tokens();
        private Tongue tongue;
        private boolean isEdictTold;
        private int clerksTold;
        int kindOfFault;
        private int placeOfFault;

        /** How many LINES; -1 less the place of a FAULT. */
        int readTongue(Row tape, Tongue into) {
            begin(tape, into, MOST_OF_TONGUE);
            into.clear();
            isEdictTold = false;
            clerksTold = 0;
            int lines = 0;
            for (; lines < MOST_OF_TONGUE && tokens.kind != Tokens.END; lines++) {
                if (!readLine()) {
                    return -1 - placeOfFault;
                }
            }
            if (tokens.isTooLong()) {
                refuse(FAULT_TOKEN);
                return -1 - placeOfFault;
            }
            into.settle();
            return lines;
        }

        /**
         * How many SAYINGS; -1 less the place of a FAULT. A WORD that a TONGUE is told with is no
         * NAME, so it can't come here either: FAULT 1, the least that it has.
         */
        int readText(Row tape, Tongue of, Row into) {
            begin(tape, of, MOST_OF_TEXT);
            into.size = 0;
            for (int i = 0; i < MOST_OF_TEXT && tokens.kind != Tokens.END; i++) {
                int w = toldHere(Tongue.SAYING_NAMES, of.sayings);
                if (w < 0 || into.size >= MOST_SAID && !refuse(FAULT_TOO_MANY)) {
                    return -1 - placeOfFault;
                }
                into.put(w);
                tokens.advance();
            }
            if (tokens.isTooLong()) {
                refuse(FAULT_TOKEN);
                return -1 - placeOfFault;
            }
            return into.size;
        }

        private void begin(Row tape, Tongue newTongue, int most) {
            tongue = newTongue;
            kindOfFault = 0;
            placeOfFault = 0;
            tokens.begin(tape, most);
        }

        /** A FAULT at the TOKEN at hand: false. */
        private boolean refuse(int kind) {
            kindOfFault = kind;
            placeOfFault = tokens.place;
            return false;
        }

        private boolean readLine() {
            if (tokens.keyword == null) {
                return refuse(FAULT_TOKEN);
            }
            switch (tokens.keyword) {
                case SORT:
                    return readSort() && readClose();
                case MARK:
                    return readMark() && readClose();
                case FOLLOW:
                    return readFollow() && readClose();
                case WORD:
                    return readWord() && readClose();
                case READS:
                    return readReads() && readClose();
                case EDICT:
                    return readEdict() && readClose();
                case CLERK:
                    return readClerk() && readClose();
                default:
                    return refuse(FAULT_TOKEN);
            }
        }

        private boolean readClose() {
            if (tokens.kind != Tokens.CLOSE) {
                return refuse(FAULT_TOKEN);
            }
            tokens.advance();
            return true;
        }

        private boolean readSort() {
            if (tongue.sorts >= SORTS) {
                return refuse(FAULT_TOO_MANY);
            }
            int sort = tongue.sorts;
            if (!readNewName(sort)) {
                return false;
            }
            tongue.sorts++;
            boolean begins = false;
            boolean ends = false;
            for (int i = 0; i < 2 && isBeginsOrEnds(); i++) {
                boolean isBegins = tokens.keyword == Keyword.BEGINS;
                if (isBegins ? begins : ends) {
                    return refuse(FAULT_NAME);
                }
                begins |= isBegins;
                ends |= !isBegins;
                tokens.advance();
            }
            tongue.ahead[sort] |= begins ? 255L << 8 * Tongue.START_SORT : 0L;
            tongue.ends |= ends ? 255L << 8 * sort : 0L;
            // Both are told when a third one comes, so it is told twice, whichever it is.
            return !isBeginsOrEnds() || refuse(FAULT_NAME);
        }

        private boolean isBeginsOrEnds() {
            return tokens.keyword == Keyword.BEGINS || tokens.keyword == Keyword.ENDS;
        }

        private boolean readMark() {
            if (tongue.marks >= MARKS) {
                return refuse(FAULT_TOO_MANY);
            }
            if (!readNewName(Tongue.MARK_NAMES + tongue.marks)) {
                return false;
            }
            tongue.marks++;
            return true;
        }

        private boolean readFollow() {
            tokens.advance();
            int one = toldHere(0, tongue.sorts);
            if (one < 0) {
                return false;
            }
            tokens.advance();
            int then = toldHere(0, tongue.sorts);
            if (then < 0 || tongue.mayFollow(one, then) && !refuse(FAULT_NAME)) {
                return false;
            }
            tongue.turnFollow(one, then);
            tokens.advance();
            return true;
        }

        private boolean readWord() {
            if (tongue.sayings >= SAYINGS) {
                return refuse(FAULT_TOO_MANY);
            }
            int w = tongue.sayings;
            if (!readNewName(Tongue.SAYING_NAMES + w)) {
                return false;
            }
            tongue.sayings++;
            boolean isRead = readOption(Keyword.BEATS, tongue.beats, 0, 9)
                && readOption(Keyword.WEIGHS, tongue.weighs, 1, 60)
                && readOption(Keyword.COSTS, tongue.costs, 0, MOST_COSTS);
            if (isRead && tokens.keyword == Keyword.IDLE) {
                tongue.idle |= 1 << w;
                tokens.advance();
            }
            return isRead;
        }

        /** Of the latest SAYING: 1, if it is not told. */
        private boolean readOption(Keyword option, int[] values, int least, int most) {
            int w = tongue.sayings - 1;
            if (w < 0 || w >= values.length) {
                return false;
            }
            values[w] = 1;
            if (tokens.keyword != option) {
                return true;
            }
            tokens.advance();
            int number = numberHere(least, most);
            if (number < 0) {
                return false;
            }
            values[w] = number;
            tokens.advance();
            return true;
        }

        private boolean readReads() {
            tokens.advance();
            int w = toldHere(Tongue.SAYING_NAMES, tongue.sayings);
            if (w < 0) {
                return false;
            }
            tokens.advance();
            int sort = toldHere(0, tongue.sorts);
            if (sort < 0 || tongue.readsAs(w, sort) && !refuse(FAULT_NAME)) {
                return false;
            }
            tongue.turnReads(w, sort);
            tokens.advance();
            for (int i = 0; i < CHANGES && isChange(); i++) {
                if (!readChange(w, sort)) {
                    return false;
                }
            }
            return !isChange() || refuse(FAULT_TOO_MANY);
        }

        private boolean isChange() {
            Keyword keyword = tokens.keyword;
            return keyword == Keyword.SETS || keyword == Keyword.CLEARS || keyword == Keyword.TURNS;
        }

        private boolean readChange(int w, int sort) {
            Keyword change = tokens.keyword;
            tokens.advance();
            int mark = toldHere(Tongue.MARK_NAMES, tongue.marks);
            if (mark < 0) {
                return false;
            }
            int bit = 1 << mark;
            int keeps = change == Keyword.TURNS ? MEANINGS - 1 : MEANINGS - 1 - bit;
            tongue.change(w, sort, keeps, change == Keyword.CLEARS ? 0 : bit);
            tokens.advance();
            return true;
        }

        private boolean readEdict() {
            if (isEdictTold || clerksTold != 0) {
                return refuse(FAULT_NAME);
            }
            tokens.advance();
            int n = numberHere(2, LARGEST_N);
            if (n < 0) {
                return false;
            }
            tokens.advance();
            int run = numberHere(1, n - 1);
            if (run < 0) {
                return false;
            }
            tongue.edict.tell(n, run);
            isEdictTold = true;
            tokens.advance();
            return true;
        }

        private boolean readClerk() {
            tokens.advance();
            int b = numberHere(1, tongue.edict.n);
            if (b < 0 || (clerksTold >> b & 1) != 0 && !refuse(FAULT_NAME)) {
                return false;
            }
            tokens.advance();
            int weight = numberHere(0, 9);
            if (weight < 0) {
                return false;
            }
            clerksTold |= 1 << b;
            tongue.clerks[b] = weight;
            tokens.advance();
            return true;
        }

        /** Behind the TOKEN at hand a NAME that was not told; it is kept as the names' i-th. */
        private boolean readNewName(int i) {
            tokens.advance();
            if (!isNameHere()) {
                return refuse(FAULT_TOKEN);
            }
            boolean isTold = indexOfName(0, tongue.sorts) >= 0
                || indexOfName(Tongue.MARK_NAMES, tongue.marks) >= 0
                || indexOfName(Tongue.SAYING_NAMES, tongue.sayings) >= 0;
            if (isTold) {
                return refuse(FAULT_NAME);
            }
            tongue.names[i] = tokens.value;
            tokens.advance();
            return true;
        }

        /** The number of the NAME at hand among so many names; NONE and a FAULT, if it is none of them. */
        private int toldHere(int from, int size) {
            if (!isNameHere()) {
                refuse(FAULT_TOKEN);
                return NONE;
            }
            int i = indexOfName(from, size);
            if (i < 0) {
                refuse(FAULT_NAME);
            }
            return i;
        }

        private boolean isNameHere() {
            return tokens.kind == Tokens.WORD && tokens.keyword == null;
        }

        private int indexOfName(int from, int size) {
            for (int i = 0; i < size; i++) {
                if (tongue.names[from + i] == tokens.value) {
                    return i;
                }
            }
            return NONE;
        }

        /** The NUMBER at hand; NONE and a FAULT, if it is not so. */
        private int numberHere(int least, int most) {
            if (tokens.kind != Tokens.NUMBER) {
                refuse(FAULT_TOKEN);
                return NONE;
            }
            if (tokens.value < least || tokens.value > most) {
                refuse(FAULT_NUMBER);
                return NONE;
            }
            return tokens.value;
        }
    }

    /** What rows mean, and how they are read. */
    private static final class Judge {
        private final Row struck = new Row(MOST_SAID);
        private final long[] counts = new long[SORTS + 1];
        private final long[] nextCounts = new long[SORTS + 1];
        /** By place: SORTS with which the rest of the row can be read, as bits. */
        private final int[] canGoOn = new int[MOST_SAID];
        private final int[] sortsRead = new int[MOST_SAID];
        private final int[] letterRow = new int[MOST_SAID * LETTERS_OF_NAME];
        private int letterCount;
        private final long[] ways = new long[MOST_SAID * LETTERS_OF_NAME + 1];

        /** What is LEFT of the TEXT by b; it holds until the next strike. */
        Row strike(Matter matter, int b) {
            struck.size = 0;
            for (int i = 0; i < matter.said.size; i++) {
                if (!matter.tongue.edict.strikes(b, i + 1)) {
                    struck.put(matter.said.at[i]);
                }
            }
            return struck;
        }

        int meansBy(Tongue tongue, Row row, int b) {
            long state = Tongue.START;
            for (int i = 0; i < row.size; i++) {
                if (!tongue.edict.strikes(b, i + 1)) {
                    state = tongue.stepped(state, row.at[i]);
                }
            }
            return tongue.meant(state);
        }

        int turnsOf(Tongue tongue, Row row) {
            int all = meansBy(tongue, row, 0);
            int beginnings = 0;
            for (int b = 1; b <= tongue.edict.n; b++) {
                if (meansBy(tongue, row, b) != all) {
                    beginnings |= 1 << b;
                }
            }
            return beginnings;
        }

        boolean meanTheSame(Tongue tongue, Row one, Row another) {
            for (int b = 0; b <= tongue.edict.n; b++) {
                if (meansBy(tongue, one, b) != meansBy(tongue, another, b)) {
                    return false;
                }
            }
            return true;
        }

        int beatsBy(Tongue tongue, Row row, int b) {
            int beats = 0;
            for (int i = 0; i < row.size; i++) {
                if (!tongue.edict.strikes(b, i + 1)) {
                    beats += tongue.beats[row.at[i]];
                }
            }
            return beats;
        }

        long countReadings(Tongue tongue, Row row) {
            Arrays.fill(counts, 0L);
            counts[Tongue.START_SORT] = 1;
            for (int i = 0; i < row.size; i++) {
                countWith(tongue, row.at[i]);
            }
            long all = 0;
            for (int sort = 0; sort < tongue.sorts; sort++) {
                all += tongue.mayEnd(sort) ? counts[sort] : 0;
            }
            return all;
        }

        private void countWith(Tongue tongue, int w) {
            Arrays.fill(nextCounts, 0L);
            for (int sort = 0; sort < tongue.sorts; sort++) {
                for (int one = 0; one <= SORTS && tongue.readsAs(w, sort); one++) {
                    nextCounts[sort] += tongue.mayFollow(one, sort) ? counts[one] : 0;
                }
            }
            System.arraycopy(nextCounts, 0, counts, 0, counts.length);
        }

        /** Makes ready what sortRead tells; false: there is no READING. */
        boolean readFirst(Tongue tongue, Row row) {
            int next = 0;
            for (int i = row.size - 1; i >= 0; i--) {
                canGoOn[i] = 0;
                for (int sort = 0; sort < tongue.sorts; sort++) {
                    boolean goesOn = i == row.size - 1 ? tongue.mayEnd(sort) : leadsTo(tongue, sort, next);
                    if (goesOn && tongue.readsAs(row.at[i], sort)) {
                        canGoOn[i] |= 1 << sort;
                    }
                }
                next = canGoOn[i];
            }
            int latestSort = Tongue.START_SORT;
            for (int i = 0; i < row.size; i++) {
                latestSort = firstBehind(tongue, latestSort, canGoOn[i]);
                if (latestSort < 0) {
                    return false;
                }
                sortsRead[i] = latestSort;
            }
            return row.size > 0;
        }

        private static boolean leadsTo(Tongue tongue, int sort, int those) {
            return firstBehind(tongue, sort, those) >= 0;
        }

        private static int firstBehind(Tongue tongue, int sort, int those) {
            for (int then = 0; then < tongue.sorts; then++) {
                if ((those >> then & 1) != 0 && tongue.mayFollow(sort, then)) {
                    return then;
                }
            }
            return NONE;
        }

        int sortRead(int i) {
            return i >= 0 && i < sortsRead.length ? sortsRead[i] : NONE;
        }

        long waysOfLetters(Tongue tongue, Row row, int b) {
            strikeLetters(tongue, row, b);
            ways[0] = 1;
            for (int upTo = 1; upTo <= letterCount; upTo++) {
                ways[upTo] = 0;
                for (int w = 0; w < tongue.sayings; w++) {
                    int from = upTo - lettersBefore(upTo, tongue.names[Tongue.SAYING_NAMES + w]);
                    if (from < upTo) {
                        ways[upTo] = Math.min(MOST_WAYS, ways[upTo] + ways[from]);
                    }
                }
            }
            return ways[letterCount];
        }

        private void strikeLetters(Tongue tongue, Row row, int b) {
            letterCount = 0;
            int place = 0;
            for (int i = 0; i < row.size; i++) {
                int code = tongue.names[Tongue.SAYING_NAMES + row.at[i]];
                for (int k = LETTERS_OF_NAME - 1; k >= 0; k--) {
                    int letter = Tokens.letterFromLast(code, k);
                    place += letter == 0 ? 0 : 1;
                    if (letter != 0 && !tongue.edict.strikes(b, place)) {
                        letterRow[letterCount] = letter;
                        letterCount++;
                    }
                }
            }
        }

        /** How many letters a NAME has that stands just ahead of a place; 0: another stands there. */
        private int lettersBefore(int place, int code) {
            int size = 0;
            for (; size < LETTERS_OF_NAME && Tokens.letterFromLast(code, size) != 0; size++) {
                int at = place - 1 - size;
                if (at < 0 || letterRow[at] != Tokens.letterFromLast(code, size)) {
                    return 0;
                }
            }
            return size;
        }
    }

    /** A row that grows SAYING by SAYING, with its states of reading by 0 and each beginning. */
    private static final class Walk {
        private final long[] states = new long[(MOST_WALKED + 1) * WIDE];
        private final int[] beats = new int[(MOST_WALKED + 1) * WIDE];
        /** By place (from 0): the beginnings by which it is struck, as bits. */
        private final int[] strikes = new int[MOST_WALKED];
        final int[] goals = new int[WIDE];
        final Row row = new Row(MOST_WALKED);
        private Tongue tongue;
        private int beginnings;
        /** The size at which the GOALS are looked at; NONE: at none. */
        int length = NONE;
        /** How many beats there are to be by each beginning; NONE: any. */
        int beatsWanted = NONE;

        void begin(Tongue newTongue, Edict edict) {
            tongue = newTongue;
            beginnings = Math.min(edict.n, LARGEST_N);
            for (int b = 0; b <= beginnings; b++) {
                states[b] = Tongue.START;
                beats[b] = 0;
            }
            for (int i = 0; i < MOST_WALKED; i++) {
                strikes[i] = 0;
                for (int b = 1; b <= beginnings; b++) {
                    strikes[i] |= edict.strikes(b, i + 1) ? 1 << b : 0;
                }
            }
        }

        /** SAYING w comes at a place (from 0); false: no row that goes on so has all GOALS. */
        boolean put(int place, int w) {
            if (place < 0 || place >= MOST_WALKED) {
                return false;
            }
            row.at[place] = w;
            if (beatsWanted >= 0 && !beatsFit(place, w)) {
                return false;
            }
            boolean isLast = place + 1 == length;
            int from = place * WIDE;
            for (int b = 0; b <= beginnings; b++) {
                if (goals[b] != ANYTHING) {
                    boolean isStruck = (strikes[place] >> b & 1) != 0;
                    long state = isStruck ? states[from + b] : tongue.stepped(states[from + b], w);
                    states[from + WIDE + b] = state;
                    if (state == 0 && goals[b] != NO_READING || isLast && !meets(state, goals[b])) {
                        return false;
                    }
                }
            }
            return true;
        }

        private boolean beatsFit(int place, int w) {
            boolean isLast = place + 1 == length;
            int from = place * WIDE;
            for (int b = 1; b <= beginnings; b++) {
                boolean isStruck = (strikes[place] >> b & 1) != 0;
                int sum = beats[from + b] + (isStruck ? 0 : tongue.beats[w]);
                beats[from + WIDE + b] = sum;
                if (sum > beatsWanted || isLast && sum != beatsWanted) {
                    return false;
                }
            }
            return true;
        }

        private boolean meets(long state, int goal) {
            int meant = tongue.meant(state);
            if (goal == NO_READING) {
                return meant == 0;
            }
            return goal == ONE_MEANING ? Integer.bitCount(meant) == 1 : meant == 1 << goal;
        }

        /** The one MEANING, as a bit, that the first SAYINGS mean by all that have a GOAL; 0: none. */
        int agreed(int size) {
            int same = 0;
            for (int b = 0; b <= beginnings; b++) {
                if (goals[b] != ANYTHING) {
                    int meant = tongue.meant(states[size * WIDE + b]);
                    if (Integer.bitCount(meant) != 1 || same != 0 && same != meant) {
                        return 0;
                    }
                    same = meant;
                }
            }
            return same;
        }
    }

    /** Looks for rows that have all GOALS. */
    private static final class Finder {
        private final Walk walk = new Walk();
        private final Edict another = new Edict();
        private Tongue tongue;
        private Row toMend;
        private int leastCosts;
        final Row best = new Row(MOST_CHEAPEST);

        void want(int b, int goal) {
            if (b >= 0 && b < WIDE) {
                walk.goals[b] = goal;
            }
        }

        /** A GOAL for 0, and one for all beginnings. */
        void wantByAll(int whole, int struck) {
            Arrays.fill(walk.goals, struck);
            walk.goals[0] = whole;
        }

        void wantBeats(int beats) {
            walk.beatsWanted = beats;
        }

        Row foundRow() {
            return walk.row;
        }

        int seekShortestBy(Tongue newTongue, int n, int run, int most) {
            another.tell(n, run);
            return seekShortest(newTongue, another, most);
        }

        /** How many SAYINGS the first of the shortest rows has; NONE: there is none in so many. */
        int seekShortest(Tongue newTongue, Edict edict, int most) {
            tongue = newTongue;
            walk.begin(newTongue, edict);
            for (int length = 1; length <= most; length++) {
                walk.length = length;
                if (seek(0)) {
                    walk.row.size = length;
                    return length;
                }
            }
            return NONE;
        }

        private boolean seek(int place) {
            if (place >= walk.length) {
                return true;
            }
            for (int w = 0; w < tongue.sayings; w++) {
                if (walk.put(place, w) && seek(place + 1)) {
                    return true;
                }
            }
            return false;
        }

        /** The least costs; the row is the best one then. NONE: there is none. */
        int seekCheapest(Tongue newTongue, int most) {
            tongue = newTongue;
            walk.begin(newTongue, newTongue.edict);
            leastCosts = ABOVE_ALL_COSTS;
            for (int length = 1; length <= most; length++) {
                walk.length = length;
                seekCheaper(0, 0);
            }
            return leastCosts == ABOVE_ALL_COSTS ? NONE : leastCosts;
        }

        private void seekCheaper(int place, int costs) {
            if (costs >= leastCosts) {
                return;
            }
            if (place >= walk.length) {
                leastCosts = costs;
                walk.row.size = place;
                best.copyFrom(walk.row);
                return;
            }
            for (int w = 0; w < tongue.sayings; w++) {
                if (walk.put(place, w)) {
                    seekCheaper(place + 1, costs + tongue.costs[w]);
                }
            }
        }

        /** MEANINGS, as bits, that are SAYABLE in so many. */
        int collectSafe(Tongue newTongue, int most) {
            tongue = newTongue;
            wantByAll(ANYTHING, ONE_MEANING);
            walk.begin(newTongue, newTongue.edict);
            walk.length = NONE;
            return collect(0, most);
        }

        private int collect(int place, int most) {
            int those = walk.agreed(place);
            if (place >= most) {
                return those;
            }
            for (int w = 0; w < tongue.sayings; w++) {
                if (walk.put(place, w)) {
                    those |= collect(place + 1, most);
                }
            }
            return those;
        }

        /** How many idle SAYINGS are put in; NONE: it can't be. */
        int seekMended(Tongue newTongue, Row row) {
            tongue = newTongue;
            toMend = row;
            wantByAll(ONE_MEANING, ONE_MEANING);
            walk.begin(newTongue, newTongue.edict);
            for (int more = 0; more <= MOST_PUT_IN; more++) {
                walk.length = row.size + more;
                if (seekWithIdle(0, 0)) {
                    walk.row.size = walk.length;
                    return more;
                }
            }
            return NONE;
        }

        /**
         * Each row is come by once: a SAYING that is the next to be mended is always taken for it,
         * since which of like ones were put in changes nothing of the row.
         */
        private boolean seekWithIdle(int place, int taken) {
            if (place >= walk.length) {
                return walk.agreed(place) != 0;
            }
            int next = toMend.atOrNone(taken);
            boolean mayPutIn = walk.length - place > toMend.size - taken;
            for (int w = 0; w < tongue.sayings; w++) {
                boolean mayCome = w == next || mayPutIn && (tongue.idle >> w & 1) != 0;
                if (mayCome && walk.put(place, w) && seekWithIdle(place + 1, w == next ? taken + 1 : taken)) {
                    return true;
                }
            }
            return false;
        }
    }

    /** What the latest torn row can have been. */
    private static final class Tear {
        boolean isThere;
        long readings;
        int meanings;
        int surelySet;
        int surelyNot;
        long product;
        final Row likeliestRow = new Row(MOST_TORN);
        private Tongue tongue;
        /** By place (from 0): the SAYING that is LEFT there; NONE: it is struck. */
        private final int[] leftThere = new int[MOST_TORN];
        private int places;
        private final long[] counts = new long[(SORTS + 1) * MEANINGS];
        private final long[] sums = new long[SORTS * MEANINGS];
        /** By place and SORT of the SAYING ahead: the greatest product of all that comes; 0: nothing can. */
        private final long[] greatest = new long[(MOST_TORN + 1) * (SORTS + 1)];

        /** All is told here, since the TONGUE may be another one when it is asked for. */
        void look(Tongue newTongue, Row row, int b, int n) {
            isThere = true;
            tongue = newTongue;
            places = Math.min(n, MOST_TORN);
            int next = 0;
            for (int i = 0; i < places; i++) {
                boolean isStruck = tongue.edict.strikes(b, i + 1);
                leftThere[i] = isStruck ? NONE : row.atOrNone(next);
                next += isStruck ? 0 : 1;
            }
            countAll();
            tellSure();
            weighAll();
            product = greatest[Tongue.START_SORT];
            if (product > 0) {
                chooseRow();
            }
        }

        private boolean mayStandAt(int place, int w) {
            return leftThere[place] == NONE || leftThere[place] == w;
        }

        private void countAll() {
            Arrays.fill(counts, 0L);
            counts[Tongue.START_SORT * MEANINGS] = 1;
            for (int place = 0; place < places; place++) {
                sumWhatIsAhead();
                Arrays.fill(counts, 0L);
                for (int w = 0; w < tongue.sayings; w++) {
                    if (mayStandAt(place, w)) {
                        countWith(w);
                    }
                }
            }
            readings = 0;
            meanings = 0;
            for (int i = 0; i < SORTS * MEANINGS; i++) {
                if (counts[i] != 0 && tongue.mayEnd(i / MEANINGS)) {
                    readings += counts[i];
                    meanings |= 1 << i % MEANINGS;
                }
            }
        }

        private void sumWhatIsAhead() {
            Arrays.fill(sums, 0L);
            for (int sort = 0; sort < tongue.sorts; sort++) {
                for (int one = 0; one <= SORTS; one++) {
                    for (int m = 0; m < MEANINGS && tongue.mayFollow(one, sort); m++) {
                        sums[sort * MEANINGS + m] += counts[one * MEANINGS + m];
                    }
                }
            }
        }

        private void countWith(int w) {
            for (int sort = 0; sort < tongue.sorts; sort++) {
                for (int m = 0; m < MEANINGS && tongue.readsAs(w, sort); m++) {
                    counts[sort * MEANINGS + tongue.made(w, sort, m)] += sums[sort * MEANINGS + m];
                }
            }
        }

        private void tellSure() {
            surelySet = 0;
            surelyNot = 0;
            for (int mark = 0; mark < tongue.marks && meanings != 0; mark++) {
                int with = meanings & meaningsWith(mark);
                surelySet |= with == meanings ? 1 << mark : 0;
                surelyNot |= with == 0 ? 1 << mark : 0;
            }
        }

        private void weighAll() {
            Arrays.fill(greatest, 0L);
            for (int sort = 0; sort < tongue.sorts; sort++) {
                greatest[places * (SORTS + 1) + sort] = tongue.mayEnd(sort) ? 1 : 0;
            }
            for (int place = places - 1; place >= 0; place--) {
                for (int w = 0; w < tongue.sayings; w++) {
                    if (mayStandAt(place, w)) {
                        weighWith(place, w);
                    }
                }
            }
        }

        private void weighWith(int place, int w) {
            int here = place * (SORTS + 1);
            for (int sort = 0; sort < tongue.sorts; sort++) {
                long all = tongue.readsAs(w, sort) ? weightAt(place, w) * greatest[here + SORTS + 1 + sort] : 0;
                for (int one = 0; one <= SORTS; one++) {
                    if (all > greatest[here + one] && tongue.mayFollow(one, sort)) {
                        greatest[here + one] = all;
                    }
                }
            }
        }

        private long weightAt(int place, int w) {
            return leftThere[place] == NONE ? tongue.weighs[w] : 1;
        }

        private void chooseRow() {
            likeliestRow.size = 0;
            long soFar = 1;
            int sorts = 1 << Tongue.START_SORT;
            for (int place = 0; place < places; place++) {
                int w = firstAt(place, sorts, soFar);
                if (w < 0) {
                    return;
                }
                likeliestRow.put(w);
                soFar *= weightAt(place, w);
                sorts = sortsBehind(sorts, w);
            }
        }

        /** The first SAYING with which the row can still come to the product. */
        private int firstAt(int place, int sorts, long soFar) {
            for (int w = 0; w < tongue.sayings; w++) {
                int then = mayStandAt(place, w) ? sortsBehind(sorts, w) : 0;
                for (int sort = 0; sort < tongue.sorts; sort++) {
                    long rest = greatest[(place + 1) * (SORTS + 1) + sort];
                    if ((then >> sort & 1) != 0 && soFar * weightAt(place, w) * rest == product) {
                        return w;
                    }
                }
            }
            return NONE;
        }

        /** SORTS, as bits, with which w can be read behind one of those. */
        private int sortsBehind(int those, int w) {
            int then = 0;
            for (int sort = 0; sort < tongue.sorts; sort++) {
                for (int one = 0; one <= SORTS && tongue.readsAs(w, sort); one++) {
                    if ((those >> one & 1) != 0 && tongue.mayFollow(one, sort)) {
                        then |= 1 << sort;
                    }
                }
            }
            return then;
        }
    }
}
