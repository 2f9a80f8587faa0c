import java.math.BigInteger;
import java.util.ArrayList;
import java.util.Arrays;
import java.util.HashSet;
import java.util.List;
import java.util.Set;
import java.util.TreeSet;

/** The document's terms by enumeration, in the plainest and slowest form; to compare with. */
final class Naive {
    static final List<String> KEYWORDS = Arrays.asList("sort", "begins", "ends", "mark", "follow", "word", "beats",
        "weighs", "costs", "idle", "reads", "sets", "clears", "turns", "edict", "clerk");

    /** A FAULT that ends the reading of a text. */
    static final class Fault extends RuntimeException {
        private static final long serialVersionUID = 1L;
        final int kind;
        final int place;

        Fault(int kind, int place) {
            this.kind = kind;
            this.place = place;
        }
    }

    static final class Token {
        final String letters;
        final int place;

        Token(String letters, int place) {
            this.letters = letters;
            this.place = place;
        }

        boolean isWord() {
            return letters.matches("[a-z]{1,6}");
        }

        boolean isName() {
            return isWord() && !KEYWORDS.contains(letters);
        }

        boolean isNumber() {
            return letters.matches("[0-9]{1,2}");
        }

        boolean is(String what) {
            return letters.equals(what);
        }
    }

    final List<String> sorts = new ArrayList<>();
    final List<String> marks = new ArrayList<>();
    final List<String> words = new ArrayList<>();
    final Set<Integer> begins = new HashSet<>();
    final Set<Integer> ends = new HashSet<>();
    final Set<List<Integer>> follows = new HashSet<>();
    /** beats, weighs, costs, idle by SAYING. */
    final List<int[]> numbers = new ArrayList<>();
    /** By SAYING and SORT: the changes, or null. */
    final List<List<String[]>> reads = new ArrayList<>();
    int n = 3;
    int run = 1;
    final int[] clerks = {1, 1, 1, 1, 1, 1};

    // ---- texts ----

    private List<Token> tokens;
    private int at;

    private static List<Token> split(String text, int most) {
        List<Token> all = new ArrayList<>();
        int i = 0;
        while (i < text.length() && i < most) {
            int from = i;
            if (" \n".indexOf(text.charAt(i)) >= 0) {
                i++;
                continue;
            }
            while (i < text.length() && text.substring(i, i + 1).matches("[a-z0-9]")) {
                i++;
            }
            if (i == from) {
                i++;
            }
            all.add(new Token(text.substring(from, i), from));
        }
        all.add(new Token(text.length() > most ? "TOO LONG" : "", Math.min(most, text.length())));
        return all;
    }

    private Token here() {
        return tokens.get(at);
    }

    private Token go() {
        return tokens.get(at++);
    }

    private static void need(boolean holds, int kind, Token token) {
        if (!holds) {
            throw new Fault(kind, token.place);
        }
    }

    static Naive tongueOf(String text, int[] lines) {
        Naive tongue = new Naive();
        tongue.tokens = split(text, 900);
        lines[0] = 0;
        boolean edict = false;
        Set<Integer> clerksTold = new HashSet<>();
        while (!tongue.here().is("")) {
            Token first = tongue.go();
            switch (first.letters) {
                case "sort": tongue.sortLine(first); break;
                case "mark":
                    need(tongue.marks.size() < 3, 4, first);
                    tongue.marks.add(tongue.newName());
                    break;
                case "follow": tongue.followLine(); break;
                case "word": tongue.wordLine(first); break;
                case "reads": tongue.readsLine(); break;
                case "edict":
                    need(!edict && clerksTold.isEmpty(), 3, first);
                    edict = true;
                    tongue.n = tongue.number(2, 5);
                    tongue.run = tongue.number(1, tongue.n - 1);
                    break;
                case "clerk":
                    Token b = tongue.here();
                    int beginning = tongue.number(1, tongue.n);
                    need(clerksTold.add(beginning), 3, b);
                    tongue.clerks[beginning] = tongue.number(0, 9);
                    break;
                default: throw new Fault(1, first.place);
            }
            need(tongue.here().is(";"), 1, tongue.here());
            tongue.at++;
            lines[0]++;
        }
        return tongue;
    }

    private void sortLine(Token first) {
        need(sorts.size() < 5, 4, first);
        sorts.add(newName());
        while (here().is("begins") || here().is("ends")) {
            Set<Integer> those = here().is("begins") ? begins : ends;
            need(those.add(sorts.size() - 1), 3, here());
            at++;
        }
    }

    private void followLine() {
        int one = told(sorts);
        Token latter = here();
        int then = told(sorts);
        need(follows.add(Arrays.asList(one, then)), 3, latter);
    }

    private void wordLine(Token first) {
        need(words.size() < 8, 4, first);
        words.add(newName());
        reads.add(new ArrayList<>());
        for (int i = 0; i < 5 * 4; i++) {
            reads.get(words.size() - 1).add(null);
        }
        int[] told = {1, 1, 1, 0};
        String[] options = {"beats", "weighs", "costs"};
        int[][] bounds = {{0, 9}, {1, 60}, {0, 99}};
        for (int i = 0; i < 3; i++) {
            if (here().is(options[i])) {
                at++;
                told[i] = number(bounds[i][0], bounds[i][1]);
            }
        }
        if (here().is("idle")) {
            at++;
            told[3] = 1;
        }
        numbers.add(told);
    }

    private void readsLine() {
        int w = told(words);
        Token sortToken = here();
        int sort = told(sorts);
        need(reads.get(w).get(sort) == null, 3, sortToken);
        List<String> changes = new ArrayList<>();
        while (here().is("sets") || here().is("clears") || here().is("turns")) {
            need(changes.size() < 12, 4, here());
            changes.add(go().letters);
            changes.add(String.valueOf(told(marks)));
        }
        reads.get(w).set(sort, changes.toArray(new String[0]));
    }

    private String newName() {
        need(here().isName(), 1, here());
        String name = here().letters;
        need(!sorts.contains(name) && !marks.contains(name) && !words.contains(name), 3, here());
        at++;
        return name;
    }

    private int told(List<String> names) {
        need(here().isName(), 1, here());
        need(names.contains(here().letters), 3, here());
        return names.indexOf(go().letters);
    }

    private int number(int least, int most) {
        need(here().isNumber(), 1, here());
        int number = Integer.parseInt(here().letters);
        need(number >= least && number <= most, 2, here());
        at++;
        return number;
    }

    List<Integer> textOf(String text) {
        tokens = split(text, 200);
        at = 0;
        List<Integer> row = new ArrayList<>();
        while (!here().is("")) {
            Token token = here();
            int w = told(words);
            need(row.size() < 24, 4, token);
            row.add(w);
        }
        return row;
    }

    // ---- meaning ----

    int becomes(int w, int sort, int m) {
        String[] changes = reads.get(w).get(sort);
        int now = m;
        for (int i = 0; i < changes.length; i += 2) {
            int bit = 1 << Integer.parseInt(changes[i + 1]);
            if (changes[i].equals("sets")) {
                now |= bit;
            } else if (changes[i].equals("clears")) {
                now &= ~bit;
            } else {
                now ^= bit;
            }
        }
        return now;
    }

    List<List<Integer>> allReadings(List<Integer> row) {
        List<List<Integer>> all = new ArrayList<>();
        if (!row.isEmpty()) {
            grow(row, new ArrayList<>(), all);
        }
        return all;
    }

    private void grow(List<Integer> row, List<Integer> soFar, List<List<Integer>> all) {
        int i = soFar.size();
        if (i == row.size()) {
            if (ends.contains(soFar.get(i - 1))) {
                all.add(new ArrayList<>(soFar));
            }
            return;
        }
        for (int sort = 0; sort < sorts.size(); sort++) {
            boolean may = i == 0 ? begins.contains(sort) : follows.contains(Arrays.asList(soFar.get(i - 1), sort));
            if (may && reads.get(row.get(i)).get(sort) != null) {
                soFar.add(sort);
                grow(row, soFar, all);
                soFar.remove(i);
            }
        }
    }

    int meaning(List<Integer> row, List<Integer> reading) {
        int m = 0;
        for (int i = 0; i < row.size(); i++) {
            m = becomes(row.get(i), reading.get(i), m);
        }
        return m;
    }

    int means(List<Integer> row) {
        int all = 0;
        for (List<Integer> reading : allReadings(row)) {
            all |= 1 << meaning(row, reading);
        }
        return all;
    }

    static <T> List<T> left(List<T> row, int b, int n, int run) {
        Set<Integer> struck = new HashSet<>();
        if (b > 0) {
            for (int place = b; place <= row.size(); place += n) {
                for (int k = 0; k < run; k++) {
                    struck.add(place + k);
                }
            }
        }
        List<T> rest = new ArrayList<>();
        for (int place = 1; place <= row.size(); place++) {
            if (!struck.contains(place)) {
                rest.add(row.get(place - 1));
            }
        }
        return rest;
    }

    <T> List<T> left(List<T> row, int b) {
        return left(row, b, n, run);
    }

    int[] meansByAll(List<Integer> row) {
        int[] all = new int[n + 1];
        for (int b = 0; b <= n; b++) {
            all[b] = means(left(row, b));
        }
        return all;
    }

    int safe(List<Integer> row) {
        int[] all = meansByAll(row);
        for (int m = 0; m < 8; m++) {
            boolean isIt = true;
            for (int b = 1; b <= n; b++) {
                isIt &= all[b] == 1 << m;
            }
            if (isIt) {
                return m;
            }
        }
        return -1;
    }

    int beats(List<Integer> row) {
        int sum = 0;
        for (int w : row) {
            sum += numbers.get(w)[0];
        }
        return sum;
    }

    long letters(List<Integer> row, int b) {
        List<Character> all = new ArrayList<>();
        for (int w : row) {
            for (char c : words.get(w).toCharArray()) {
                all.add(c);
            }
        }
        StringBuilder rest = new StringBuilder();
        for (char c : left(all, b)) {
            rest.append(c);
        }
        BigInteger[] ways = new BigInteger[rest.length() + 1];
        ways[rest.length()] = BigInteger.ONE;
        for (int i = rest.length() - 1; i >= 0; i--) {
            ways[i] = BigInteger.ZERO;
            for (String name : words) {
                if (rest.substring(i).startsWith(name)) {
                    ways[i] = ways[i].add(ways[i + name.length()]);
                }
            }
        }
        return ways[0].min(BigInteger.TEN.pow(15)).longValue();
    }

    // ---- rows ----

    /** All rows of a size, the first first. */
    List<List<Integer>> rows(int size) {
        List<List<Integer>> all = new ArrayList<>();
        all.add(new ArrayList<>());
        for (int i = 0; i < size; i++) {
            List<List<Integer>> more = new ArrayList<>();
            for (List<Integer> row : all) {
                for (int w = 0; w < words.size(); w++) {
                    List<Integer> one = new ArrayList<>(row);
                    one.add(w);
                    more.add(one);
                }
            }
            all = more;
        }
        return all;
    }

    boolean meets(List<Integer> row, int[] goals, int byN, int byRun) {
        for (int b = 0; b <= byN; b++) {
            if (goals[b] != 9) {
                int meant = means(left(row, b, byN, byRun));
                if (goals[b] == 8 ? meant != 0 : meant != 1 << goals[b]) {
                    return false;
                }
            }
        }
        return true;
    }

    boolean scans(List<Integer> row, int k) {
        for (int b = 1; b <= n; b++) {
            if (beats(left(row, b)) != k) {
                return false;
            }
        }
        return true;
    }

    /** k below 0: any beats. null: none. */
    List<Integer> shortest(int[] goals, int k, int most, int byN, int byRun) {
        for (int size = 1; size <= most; size++) {
            for (List<Integer> row : rows(size)) {
                if ((k < 0 || scans(row, k)) && meets(row, goals, byN, byRun)) {
                    return row;
                }
            }
        }
        return null;
    }

    List<Integer> cheapest(int[] goals, int most) {
        List<Integer> best = null;
        for (int size = 1; size <= most; size++) {
            for (List<Integer> row : rows(size)) {
                if ((best == null || costs(row) < costs(best)) && meets(row, goals, n, run)) {
                    best = row;
                }
            }
        }
        return best;
    }

    int costs(List<Integer> row) {
        int sum = 0;
        for (int w : row) {
            sum += numbers.get(w)[2];
        }
        return sum;
    }

    int[] goals(int whole, int struck, int byN) {
        int[] goals = new int[byN + 1];
        Arrays.fill(goals, struck);
        goals[0] = whole;
        return goals;
    }

    int sayable(int most) {
        int those = 0;
        for (int size = 1; size <= most; size++) {
            for (List<Integer> row : rows(size)) {
                int m = safe(row);
                those |= m < 0 ? 0 : 1 << m;
            }
        }
        return those;
    }

    int link(int most) {
        int best = -1;
        int count = Integer.bitCount(sayable(most));
        for (int one = 0; one < sorts.size(); one++) {
            for (int then = 0; then < sorts.size(); then++) {
                if (follows.add(Arrays.asList(one, then))) {
                    int now = Integer.bitCount(sayable(most));
                    follows.remove(Arrays.asList(one, then));
                    if (now > count) {
                        count = now;
                        best = 10 * one + then;
                    }
                }
            }
        }
        return best;
    }

    int lend(int most) {
        int best = -1;
        int count = Integer.bitCount(sayable(most));
        for (int w = 0; w < words.size(); w++) {
            for (int sort = 0; sort < sorts.size(); sort++) {
                if (reads.get(w).get(sort) == null) {
                    reads.get(w).set(sort, new String[0]);
                    int now = Integer.bitCount(sayable(most));
                    reads.get(w).set(sort, null);
                    if (now > count) {
                        count = now;
                        best = 10 * w + sort;
                    }
                }
            }
        }
        return best;
    }

    static int compare(List<Integer> one, List<Integer> another) {
        for (int i = 0; i < Math.min(one.size(), another.size()); i++) {
            if (!one.get(i).equals(another.get(i))) {
                return one.get(i) - another.get(i);
            }
        }
        return one.size() - another.size();
    }

    /** The mended row; null: it can't be. */
    List<Integer> mend(List<Integer> text) {
        TreeSet<List<Integer>> rows = new TreeSet<>(Naive::compare);
        rows.add(text);
        for (int more = 0; more <= 3; more++) {
            for (List<Integer> row : rows) {
                int m = safe(row);
                if (m >= 0 && means(row) == 1 << m) {
                    return row;
                }
            }
            TreeSet<List<Integer>> longer = new TreeSet<>(Naive::compare);
            for (List<Integer> row : rows) {
                for (int i = 0; i <= row.size(); i++) {
                    for (int w = 0; w < words.size(); w++) {
                        if (numbers.get(w)[3] == 1) {
                            List<Integer> one = new ArrayList<>(row);
                            one.add(i, w);
                            longer.add(one);
                        }
                    }
                }
            }
            rows = longer;
        }
        return null;
    }

    /** All rows of a size of which a row is LEFT by b, the first first. */
    List<List<Integer>> whole(List<Integer> rest, int b, int size) {
        List<List<Integer>> all = new ArrayList<>();
        for (List<Integer> row : rows(size)) {
            if (left(row, b).equals(rest)) {
                all.add(row);
            }
        }
        return all;
    }

    long struckWeight(List<Integer> row, int b) {
        List<Integer> places = new ArrayList<>();
        for (int i = 0; i < row.size(); i++) {
            places.add(i);
        }
        List<Integer> kept = left(places, b);
        long product = 1;
        for (int i : places) {
            product *= kept.contains(i) ? 1 : numbers.get(row.get(i))[1];
        }
        return product;
    }
}
