import java.util.ArrayList;
import java.util.Arrays;
import java.util.List;
import java.util.Random;

/** Drawn runs of calls, each answer compared with that of the plainest form (Naive). */
public final class AgainstNaiveTest {
    private final Random random;
    private final StruckWords x = new StruckWords();
    private Naive tongue = new Naive();
    private List<Integer> text = new ArrayList<>();
    private List<List<Integer>> book = new ArrayList<>();
    private final Naive[] keptTongue = new Naive[2];
    private final List<List<Integer>> keptText = Arrays.asList(null, null);
    private final List<List<List<Integer>>> keptBook = Arrays.asList(null, null);
    private List<Integer> latest = new ArrayList<>();
    private int fault = 0;
    private int[] sure = null;
    private long product = -1;
    private List<Integer> likeliest = null;
    private int calls = 0;

    private AgainstNaiveTest(long seed) {
        random = new Random(seed);
    }

    public static void main(String[] args) {
        int runs = args.length > 0 ? Integer.parseInt(args[0]) : 1500;
        int first = args.length > 1 ? Integer.parseInt(args[1]) : 0;
        for (int seed = first; seed < first + runs && !Check.isAnyWrong(); seed++) {
            new AgainstNaiveTest(seed).run();
            if (Check.isAnyWrong()) {
                System.out.println("seed " + seed);
            }
        }
        Check.end("AgainstNaiveTest");
    }

    private void run() {
        int most = 20 + random.nextInt(60);
        while (calls < most && !Check.isAnyWrong()) {
            if (calls == 0 || random.nextInt(25) == 0) {
                tongueCall();
            } else if (random.nextInt(5) == 0) {
                textCall();
            } else {
                otherCall();
            }
            calls++;
        }
    }

    private int draw(int n) {
        return random.nextInt(n);
    }

    private boolean chance(int oneIn) {
        return random.nextInt(oneIn) == 0;
    }

    // ---- tongues and texts ----

    private String blanks() {
        return chance(6) ? " \n ".substring(0, 1 + draw(3)) : " ";
    }

    private String drawnTongue() {
        List<String> lines = new ArrayList<>();
        int sorts = 1 + draw(chance(4) ? 5 : 3);
        int marks = draw(4);
        int words = 1 + draw(chance(4) ? 8 : 4);
        String[] names = {"a", "b", "ab", "ba", "aab", "bb", "abab", "aaa"};
        for (int i = 0; i < sorts; i++) {
            String ways = (chance(2) ? " begins" : "") + (chance(2) ? " ends" : "");
            lines.add("sort s" + "abcde".charAt(i) + (ways.isEmpty() && i == 0 ? " begins ends" : ways));
        }
        for (int i = 0; i < marks; i++) {
            lines.add("mark m" + "abc".charAt(i));
        }
        int dense = 1 + draw(3);
        for (int i = 0; i < sorts; i++) {
            for (int k = 0; k < sorts; k++) {
                if (draw(3) < dense) {
                    lines.add("follow s" + "abcde".charAt(i) + blanks() + "s" + "abcde".charAt(k));
                }
            }
        }
        for (int w = 0; w < words; w++) {
            lines.add("word " + names[w] + (chance(2) ? " beats " + draw(chance(2) ? 3 : 10) : "")
                + (chance(2) ? " weighs " + (1 + draw(chance(2) ? 3 : 60)) : "")
                + (chance(2) ? " costs " + draw(chance(2) ? 4 : 100) : "") + (chance(2) ? " idle" : ""));
        }
        for (int w = 0; w < words; w++) {
            for (int i = 0; i < sorts; i++) {
                if (chance(2)) {
                    lines.add("reads " + names[w] + " s" + "abcde".charAt(i) + changes(marks));
                }
            }
        }
        if (chance(2)) {
            int n = 2 + draw(4);
            lines.add("edict " + n + " " + (1 + draw(n - 1)));
        }
        for (int b = 1; b <= 2 && chance(2); b++) {
            lines.add("clerk " + b + " " + draw(10));
        }
        return String.join(chance(3) ? ";" : ";" + blanks(), lines) + ";";
    }

    private String changes(int marks) {
        StringBuilder all = new StringBuilder();
        int size = marks == 0 ? 0 : draw(chance(5) ? 7 : 3);
        for (int i = 0; i < size; i++) {
            all.append(' ').append(Arrays.asList("sets", "clears", "turns").get(draw(3)));
            all.append(" m").append("abc".charAt(draw(marks)));
        }
        return all.toString();
    }

    private String spoilt(String good) {
        String[] parts = good.split("(?<=[ ;])|(?=[ ;])");
        List<String> all = new ArrayList<>(Arrays.asList(parts));
        String[] strange = {"sort", "begins", "ends", "mark", "follow", "word", "beats", "weighs", "costs", "idle",
            "reads", "sets", "clears", "turns", "edict", "clerk", ";", "0", "1", "6", "60", "100", "a", "b", "sa", "sb",
            "ma", "zz", "abcdefg", "a1", "1a", ".", "A", "\t", "word q", "sort q", "mark q; mark r", "edict 2 1;"};
        for (int i = 0; i < 1 + draw(2); i++) {
            int at = draw(all.size());
            if (chance(3)) {
                all.remove(at);
            } else if (chance(2)) {
                all.set(at, strange[draw(strange.length)]);
            } else {
                all.add(at, " " + strange[draw(strange.length)] + " ");
            }
            if (all.isEmpty()) {
                break;
            }
        }
        String text = String.join("", all);
        return chance(8) ? text.substring(0, draw(text.length() + 1)) : text;
    }

    private String padded(String told, int most) {
        StringBuilder all = new StringBuilder(told);
        if (chance(10)) {
            int size = Math.min(940, most - 2 + draw(8));
            int at = draw(all.length() + 1);
            while (all.length() < size) {
                all.insert(chance(2) ? Math.min(at, all.length()) : all.length(), ' ');
            }
        }
        return all.length() > 940 ? all.substring(0, 940) : all.toString();
    }

    private void tongueCall() {
        String told = drawnTongue();
        told = padded(chance(3) ? spoilt(told) : told, 900);
        int want;
        try {
            int[] lines = new int[1];
            Naive next = Naive.tongueOf(told, lines);
            tongue = next;
            text = new ArrayList<>();
            book = new ArrayList<>();
            want = lines[0];
            fault = 0;
        } catch (Naive.Fault f) {
            want = -1 - f.place;
            fault = f.kind;
        }
        Check.tape(x, told);
        Check.due("tongue of " + told, x.tongue(), want);
        Check.due("fault", x.fault(), fault);
    }

    private int words() {
        return tongue.words.size();
    }

    private List<Integer> drawnRow(int size) {
        List<Integer> row = new ArrayList<>();
        for (int i = 0; i < size && words() > 0; i++) {
            row.add(draw(words()));
        }
        return row;
    }

    private void textCall() {
        if (chance(2)) {
            layCall();
            return;
        }
        StringBuilder told = new StringBuilder();
        for (int w : drawnRow(chance(8) ? 22 + draw(4) : draw(8))) {
            told.append(tongue.words.get(w)).append(blanks());
        }
        String whole = padded(chance(4) && told.length() > 0 ? spoilt(told.toString()) : told.toString(), 200);
        int want;
        try {
            text = shortEnough(tongue.textOf(whole));
            want = tongue.textOf(whole).size();
            fault = 0;
        } catch (Naive.Fault f) {
            want = -1 - f.place;
            fault = f.kind;
        }
        Check.tape(x, whole);
        Check.due("text of " + whole, x.text(), want);
        Check.due("fault", x.fault(), fault);
        if (want > text.size()) {
            layRow(text, text.size());
        }
    }

    /** The plain form counts readings one by one: long texts would take it too long. */
    private List<Integer> shortEnough(List<Integer> row) {
        return row.size() > 9 ? new ArrayList<>(row.subList(0, 9)) : row;
    }

    private void layCall() {
        List<Integer> row = drawnRow(draw(9));
        boolean spoil = chance(6);
        if (spoil) {
            row.add(draw(row.size() + 1), chance(2) ? words() : 255);
        }
        if (!spoil) {
            text = row;
        }
        layRow(row, spoil ? -1 : row.size());
    }

    private void layRow(List<Integer> row, int want) {
        Check.tape(x, ints(row));
        Check.due("lay", x.lay(), want);
    }

    private static int[] ints(List<Integer> row) {
        int[] all = new int[row.size()];
        for (int i = 0; i < all.length; i++) {
            all[i] = row.get(i);
        }
        return all;
    }

    // ---- all other calls ----

    private int anyB() {
        return draw(tongue.n + 3) - 1;
    }

    private boolean isB(int b) {
        return b >= 0 && b <= tongue.n;
    }

    private void otherCall() {
        switch (draw(10)) {
            case 0: wordCalls(); break;
            case 1: leftCalls(); break;
            case 2: meaningCalls(); break;
            case 3: turnCalls(); break;
            case 4: knownCalls(); break;
            case 5: findCalls(); break;
            case 6: sayableCalls(); break;
            case 7: mendCall(); break;
            case 8: tornCalls(); break;
            default: bookCalls(); break;
        }
        foundCalls();
    }

    private void wordCalls() {
        for (int w = -1; w <= words(); w++) {
            for (int what = -1; what <= 5; what++) {
                int w0 = w;
                int what0 = what;
                if (w < 0 || w >= words() || what < 0 || what > 4) {
                    Check.dueThrow("word(" + w + ", " + what + ")", () -> x.word(w0, what0));
                } else if (what < 4) {
                    Check.due("word(" + w + ", " + what + ")", x.word(w, what), tongue.numbers.get(w)[what]);
                } else {
                    long reads = tongue.reads.get(w).stream().filter(r -> r != null).count();
                    Check.due("word(" + w + ", 4)", x.word(w, 4), reads);
                }
            }
            Check.due("alike(" + w + ")", x.alike(w), alike(w));
            for (int sort = -1; sort <= tongue.sorts.size(); sort++) {
                for (int m = -1; m <= 8; m++) {
                    boolean there = w >= 0 && w < words() && sort >= 0 && sort < tongue.sorts.size() && m >= 0 && m < 8
                        && tongue.reads.get(w).get(sort) != null;
                    Check.due("becomes", x.becomes(w, sort, m), there ? tongue.becomes(w, sort, m) : -1);
                }
            }
        }
        int[] counts = {tongue.sorts.size(), tongue.marks.size(), words(), tongue.n, tongue.run, text.size(),
            book.size(), 0};
        for (int what = -1; what <= 8; what++) {
            Check.due("count(" + what + ")", x.count(what), what < 0 || what > 7 ? -1 : counts[what]);
        }
    }

    private int alike(int w) {
        if (w < 0 || w >= words()) {
            return -1;
        }
        int those = 0;
        for (int v = 0; v < words(); v++) {
            boolean same = true;
            for (int sort = 0; sort < tongue.sorts.size(); sort++) {
                boolean one = tongue.reads.get(w).get(sort) != null;
                same &= one == (tongue.reads.get(v).get(sort) != null);
                for (int m = 0; m < 8 && same && one; m++) {
                    same = tongue.becomes(w, sort, m) == tongue.becomes(v, sort, m);
                }
            }
            those |= same ? 1 << v : 0;
        }
        return those;
    }

    private void leftCalls() {
        for (int b = -1; b <= tongue.n + 1; b++) {
            List<Integer> rest = isB(b) ? tongue.left(text, b) : new ArrayList<>();
            Check.due("left(" + b + ")", x.left(b), isB(b) ? rest.size() : -1);
            for (int i = -1; i <= rest.size(); i++) {
                Check.due("leftAt", x.leftAt(b, i), i < 0 || i >= rest.size() ? -1 : rest.get(i));
            }
            Check.due("letters(" + b + ")", x.letters(b), isB(b) ? tongue.letters(text, b) : -1);
        }
        for (int k = -1; k <= 217; k++) {
            int those = 0;
            for (int b = 0; b <= tongue.n; b++) {
                those |= tongue.beats(tongue.left(text, b)) == k ? 1 << b : 0;
            }
            Check.due("scans(" + k + ")", x.scans(k), k < 0 || k > 216 ? -1 : those);
        }
    }

    private void meaningCalls() {
        for (int b = -1; b <= tongue.n + 1; b++) {
            List<Integer> rest = isB(b) ? tongue.left(text, b) : new ArrayList<>();
            List<List<Integer>> readings = tongue.allReadings(rest);
            Check.due("means(" + b + ")", x.means(b), isB(b) ? tongue.means(rest) : -1);
            Check.due("readings(" + b + ")", x.readings(b), isB(b) ? readings.size() : -1);
            for (int i = -1; i <= rest.size(); i++) {
                boolean there = i >= 0 && i < rest.size() && !readings.isEmpty();
                Check.due("sortAt", x.sortAt(b, i), there ? readings.get(0).get(i) : -1);
            }
            for (int c = -1; c <= tongue.n + 1; c++) {
                boolean there = isB(b) && isB(c) && b > 0 && c > 0;
                Check.due("twice", x.twice(b, c), there ? tongue.means(tongue.left(rest, c)) : -1);
            }
        }
    }

    private int turns(List<Integer> row) {
        int[] all = tongue.meansByAll(row);
        int those = 0;
        for (int b = 1; b <= tongue.n; b++) {
            those |= all[b] != all[0] ? 1 << b : 0;
        }
        return those;
    }

    private boolean isIn(int mark, int meanings, boolean set) {
        for (int m = 0; m < 8; m++) {
            if ((meanings >> m & 1) != 0 && (m >> mark & 1) != (set ? 1 : 0)) {
                return false;
            }
        }
        return meanings != 0;
    }

    private void turnCalls() {
        Check.due("turns", x.turns(), turns(text));
        int[] all = tongue.meansByAll(text);
        for (int k = -1; k <= 3; k++) {
            int those = 0;
            for (int b = 1; b <= tongue.n; b++) {
                boolean is = isIn(k, all[0], true) && isIn(k, all[b], false)
                    || isIn(k, all[0], false) && isIn(k, all[b], true);
                those |= is ? 1 << b : 0;
            }
            Check.due("against(" + k + ")", x.against(k), k < 0 || k >= tongue.marks.size() ? -1 : those);
        }
        for (int i = -1; i <= text.size(); i++) {
            int those = 0;
            for (int w = 0; w < words() && i >= 0 && i < text.size(); w++) {
                List<Integer> row = new ArrayList<>(text);
                row.set(i, w);
                those |= Arrays.equals(all, tongue.meansByAll(row)) ? 1 << w : 0;
            }
            Check.due("standIn(" + i + ")", x.standIn(i), i < 0 || i >= text.size() ? -1 : those);
        }
    }

    private void knownCalls() {
        Check.due("safe", x.safe(), tongue.safe(text));
        int[] all = tongue.meansByAll(text);
        for (int m = -1; m <= 8; m++) {
            int m0 = m;
            if (m < 0 || m > 7) {
                Check.dueThrow("known", () -> x.known(m0, 0));
                continue;
            }
            int above = 0;
            int below = 0;
            for (int b = 1; b <= tongue.n; b++) {
                below += tongue.clerks[b];
                above += all[b] == 1 << m ? tongue.clerks[b] : 0;
            }
            int d = java.math.BigInteger.valueOf(above).gcd(java.math.BigInteger.valueOf(below)).intValue();
            Check.due("known above", x.known(m, 0), below == 0 ? 0 : above / d);
            Check.due("known below", x.known(m, 1), below == 0 ? 1 : below / d);
            Check.dueThrow("known", () -> x.known(m0, 2));
            Check.dueThrow("known", () -> x.known(m0, -1));
        }
    }

    /** As many as the plain form can go through. */
    private int most(int bound, int rows) {
        int most = 1;
        while (most < bound && Math.pow(words(), most + 1) <= rows) {
            most++;
        }
        return 1 + draw(most);
    }

    private int[] drawnGoals() {
        int[] goals = new int[tongue.n + 1];
        int same = draw(1 << tongue.marks.size());
        for (int b = 0; b < goals.length; b++) {
            goals[b] = chance(2) ? same : chance(2) ? 9 : chance(2) ? 8 : draw(8);
        }
        return goals;
    }

    private void findCalls() {
        int[] goals = drawnGoals();
        int way = draw(4);
        int most = most(way == 1 ? 5 : 6, 800);
        int k = draw(8);
        Check.tape(x, goals);
        if (chance(12)) {
            spoiltFindCalls(way, most);
        } else if (words() == 0) {
            Check.due("find", way == 0 ? x.find(most) : way == 1 ? x.cheapest(most) : x.verse(k, most), -2);
        } else if (way == 0) {
            found(x.find(most), tongue.shortest(goals, -1, most, tongue.n, tongue.run), false);
        } else if (way == 1) {
            found(x.cheapest(most), tongue.cheapest(goals, most), true);
        } else {
            found(x.verse(k, most), tongue.shortest(goals, k, most, tongue.n, tongue.run), false);
        }
        Check.due("tape", x.count(7), 0);
        shortestCalls();
    }

    private void spoiltFindCalls(int way, int most) {
        int bad = chance(2) ? 0 : way == 1 ? 6 : 7;
        if (chance(3)) {
            x.end(tongue.n);
            bad = most;
        }
        Check.due("find", way == 0 ? x.find(bad) : way == 1 ? x.cheapest(bad) : x.verse(1, bad), -2);
    }

    private void found(int got, List<Integer> row, boolean byCosts) {
        Check.due("found", got, row == null ? -1 : byCosts ? tongue.costs(row) : row.size());
        latest = row == null ? latest : row;
    }

    private void foundCalls() {
        for (int i = -1; i <= latest.size(); i++) {
            Check.due("foundAt(" + i + ")", x.foundAt(i), i < 0 || i >= latest.size() ? -1 : latest.get(i));
        }
    }

    private void shortestCalls() {
        int m = chance(10) ? 8 : draw(1 << tongue.marks.size());
        int most = most(6, 800);
        boolean isTold = m < 8 && words() > 0;
        List<Integer> struck = isTold
            ? tongue.shortest(tongue.goals(9, m, tongue.n), -1, most, tongue.n, tongue.run) : null;
        List<Integer> whole = isTold
            ? tongue.shortest(tongue.goals(m, 9, tongue.n), -1, most, tongue.n, tongue.run) : null;
        Check.due("longer", x.longer(m, most), struck == null || whole == null ? -7 : struck.size() - whole.size());
        int n = 1 + draw(6);
        int run = draw(6);
        boolean isEdict = n >= 2 && n <= 5 && run >= 1 && run < n && m < 8;
        List<Integer> row = isEdict && words() > 0 ? tongue.shortest(tongue.goals(9, m, n), -1, most, n, run) : null;
        Check.due("other", x.other(n, run, m, most), !isEdict ? -2 : row == null ? -1 : row.size());
    }

    private void sayableCalls() {
        int most = most(5, 800);
        Check.due("sayable(" + most + ")", x.sayable(most), tongue.sayable(most));
        Check.due("sayable(0)", x.sayable(0), -1);
        Check.due("sayable(6)", x.sayable(6), -1);
        int less = most(4, 100);
        Check.due("link(" + less + ")", x.link(less), tongue.link(less));
        Check.due("lend(" + less + ")", x.lend(less), tongue.lend(less));
        Check.due("link(5)", x.link(5), -1);
        Check.due("lend(5)", x.lend(0), -1);
    }

    private void mendCall() {
        if (text.isEmpty()) {
            Check.due("mend", x.mend(), -2);
            return;
        }
        if (words() > 4 && text.size() > 4 || text.size() > 7) {
            return;
        }
        List<Integer> row = tongue.mend(text);
        Check.due("mend", x.mend(), row == null ? -1 : row.size() - text.size());
        latest = row == null ? latest : row;
    }

    private void tornCalls() {
        int n = most(7, 3000);
        int b = chance(15) ? draw(2) * (tongue.n + 1) : 1 + draw(tongue.n);
        List<Integer> rest = tongue.left(drawnRow(n), isB(b) ? b : 0);
        if (chance(12)) {
            rest.add(words());
        }
        Check.tape(x, ints(rest));
        boolean isTold = b > 0 && isB(b) && rest.size() == Naive.left(places(n), b, tongue.n, tongue.run).size()
            && !rest.contains(words());
        if (isTold) {
            tornOf(rest, b, n);
        } else {
            Check.due("torn(" + b + ", " + n + ")", x.torn(b, n), -1);
        }
        Check.due("tape", x.count(7), 0);
        for (int what = -1; what <= 3; what++) {
            Check.due("sure(" + what + ")", x.sure(what), what < 0 || what > 2 || sure == null ? -1 : sure[what]);
        }
        if (chance(2)) {
            Check.due("likeliest", x.likeliest(), product);
            latest = product > 0 ? likeliest : latest;
        }
    }

    private static List<Integer> places(int n) {
        List<Integer> all = new ArrayList<>();
        for (int i = 0; i < n; i++) {
            all.add(i);
        }
        return all;
    }

    private void tornOf(List<Integer> rest, int b, int n) {
        long readings = 0;
        int meanings = 0;
        product = 0;
        for (List<Integer> row : tongue.whole(rest, b, n)) {
            int count = tongue.allReadings(row).size();
            readings += count;
            meanings |= tongue.means(row);
            if (count > 0 && tongue.struckWeight(row, b) > product) {
                product = tongue.struckWeight(row, b);
                likeliest = row;
            }
        }
        sure = new int[] {meanings, 0, 0};
        for (int k = 0; k < tongue.marks.size(); k++) {
            sure[1] |= isIn(k, meanings, true) ? 1 << k : 0;
            sure[2] |= isIn(k, meanings, false) ? 1 << k : 0;
        }
        Check.due("torn(" + b + ", " + n + ")", x.torn(b, n), readings);
    }

    private void bookCalls() {
        if (chance(2)) {
            Check.due("add", x.add(), book.size() < 10 ? book.size() : -1);
            if (book.size() < 10) {
                book.add(new ArrayList<>(text));
            }
        }
        if (chance(3)) {
            int c = draw(12) - 1;
            boolean isThere = c >= 0 && c < book.size();
            text = isThere ? new ArrayList<>(book.get(c)) : text;
            Check.due("take", x.take(c), isThere ? text.size() : -1);
        }
        for (int b = -1; b <= tongue.n + 1; b++) {
            int those = 0;
            for (int c = 0; c < book.size(); c++) {
                int turns = turns(book.get(c));
                those |= (b == 0 ? turns != 0 : (turns >> b & 1) != 0) ? 1 << c : 0;
            }
            Check.due("book(" + b + ")", x.book(b), isB(b) ? those : -1);
        }
        int k = draw(4) - 1;
        boolean isPlace = k == 0 || k == 1;
        if (chance(2)) {
            Check.due("image", x.image(k), isPlace);
            if (isPlace) {
                keptTongue[k] = tongue;
                keptText.set(k, new ArrayList<>(text));
                keptBook.set(k, new ArrayList<>(book));
            }
        } else if (chance(2)) {
            boolean isKept = isPlace && keptTongue[k] != null;
            Check.due("restore", x.restore(k), isKept);
            if (isKept) {
                tongue = keptTongue[k];
                text = new ArrayList<>(keptText.get(k));
                book = new ArrayList<>(keptBook.get(k));
            }
            Check.due("fault", x.fault(), fault);
        }
        int n = draw(26);
        if (chance(4) && (n < 10 || n > 24)) {
            drawnCall(n, random.nextInt());
        }
    }

    private void drawnCall(int n, int seed) {
        int all = tongue.numbers.stream().mapToInt(told -> told[1]).sum();
        boolean isTold = n >= 1 && n <= 24 && words() > 0;
        Check.due("drawn", x.drawn(n, seed), isTold ? n : -1);
        if (!isTold) {
            return;
        }
        text = new ArrayList<>();
        int now = seed;
        for (int i = 0; i < n; i++) {
            now = now * 1103515245 + 12345;
            int draw = (now >>> 8) % all;
            int w = 0;
            int sum = tongue.numbers.get(0)[1];
            while (sum <= draw) {
                w++;
                sum += tongue.numbers.get(w)[1];
            }
            text.add(w);
        }
    }
}
