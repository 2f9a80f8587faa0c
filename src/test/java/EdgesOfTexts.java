/** Promises 1 to 13, and the terms' sentences on TEXTS and what is LEFT of them. */
final class EdgesOfTexts {
    private static final String TERMS = "Terms";
    private static final String EIGHT = "word a;word b;word c;word d;word e;word f;word g;word h;";
    private static final int[] FAR = {Integer.MIN_VALUE, -256, -33, -2, 32, 33, 256, 257, 65_536, Integer.MAX_VALUE};

    private EdgesOfTexts() {
    }

    static void run() {
        newObject();
        feedInOrder();
        feedOverFull();
        endCuts();
        endRefused();
        tongueIsNow();
        tongueStays();
        kindOfFault();
        noFault();
        wordTells();
        noSuchWord();
        becomes();
        becomesNone();
        struckPlaces();
        asFarAsThereAreSome();
        leftByAll();
        textSizes();
        textFaultOne();
        textFaultThree();
        textFaultFour();
        textIsNow();
        textStays();
        layIsNow();
        layRefused();
        alike();
        alikeNone();
        drawnWraps();
        drawnByWeighs();
        drawnIsNow();
        drawnRefused();
        leftTells();
        leftNone();
        leftAtTells();
        leftAtNone();
    }

    private static void newObject() {
        Edge.says("Promise 1", "An empty TONGUE; an empty tape.");
        StruckWords x = new StruckWords();
        int[] counts = {0, 0, 0, 3, 1, 0, 0, 0};
        for (int what = 0; what < 8; what++) {
            Check.due("count(" + what + ")", x.count(what), counts[what]);
        }
        Check.due("fault", x.fault(), 0);
        Check.due("foundAt", x.foundAt(0), -1);
        Check.due("sure", x.sure(0), -1);
        Check.due("likeliest", x.likeliest(), -1);
        Check.due("restore(0)", x.restore(0), false);
        Check.due("restore(1)", x.restore(1), false);
        Check.due("a byte of the tape", x.end(1), false);
        Check.dueThrow("word(0, 0)", () -> x.word(0, 0));
        StruckWords used = Check.tongue(EIGHT);
        Check.lay(used, 0, 1);
        used.add();
        used.image(0);
        used.feed(0, 0, 0, 0, 0);
        StruckWords y = new StruckWords();
        for (int what = 0; what < 8; what++) {
            Check.due("another object has nothing of it, " + what, y.count(what), counts[what]);
        }
        Check.due("nor its image", y.restore(0), false);
    }

    private static void feedInOrder() {
        Edge.says("Promise 2", "Twenty bytes come behind the tape, of each number the highest first: how many it has;");
        StruckWords x = Check.tongue(EIGHT);
        Check.due("feed", x.feed(0x07060504, 0x03020100, 0x00010203, 0x04050607, 0x07000700), 20);
        Check.due("end", x.end(19), true);
        Check.due("feed behind it", x.feed(0x01020304, 0, 0, 0, 0), 39);
        Check.due("end", x.end(23), true);
        Check.due("lay", x.lay(), 23);
        Check.dueRow("the order", x, 0, 7, 6, 5, 4, 3, 2, 1, 0, 0, 1, 2, 3, 4, 5, 6, 7, 7, 0, 7, 1, 2, 3, 4);
        for (int shift = 0; shift < 32; shift += 8) {
            Check.due("feed of 255", x.feed(0, 0, 0, 0, 255 << shift), 20);
            Check.due("255 is no saying", x.lay(), -1);
            x.feed(0, 0, 0, 0, 128 << shift);
            Check.due("nor is 128", x.lay(), -1);
        }
        // Bytes above 127 are numbers from 128 on, not below 0.
        x.feed(0x80808080, 0, 0, 0, 0);
        x.end(4);
        Check.due("no goals", x.find(1), -2);
    }

    private static void feedOverFull() {
        Edge.says("Promise 2", "NONE, and none come, if it would have more than 940.");
        StruckWords x = Check.tongue(EIGHT);
        for (int i = 1; i <= 47; i++) {
            Check.due("feed " + i, x.feed(0x01010101, 0x01010101, 0x01010101, 0x01010101, 0x01010101), 20 * i);
        }
        Check.due("a full tape", x.feed(0, 0, 0, 0, 0), -1);
        Check.due("none came", x.count(7), 940);
        for (int size = 939; size > 920; size--) {
            Check.due("end", x.end(size), true);
            Check.due("feed behind " + size, x.feed(0, 0, 0, 0, 0), -1);
            Check.due("none came", x.count(7), size);
        }
        Check.due("end", x.end(920), true);
        Check.due("feed behind 920", x.feed(0, 0, 0, 0, 0), 940);
        x.end(24);
        Check.due("lay", x.lay(), 24);
        Check.due("nothing came ahead either", x.leftAt(0, 0), 1);
        Check.due("nothing came ahead either", x.leftAt(0, 23), 1);
    }

    private static void endCuts() {
        Edge.says("Promise 3", "The tape has its first n bytes alone: true;");
        StruckWords x = Check.tongue(EIGHT);
        Check.due("end(0) of an empty tape", x.end(0), true);
        x.feed(0x00010203, 0x04050607, 0, 0, 0);
        Check.due("all of it", x.end(20), true);
        Check.due("twenty", x.count(7), 20);
        Check.due("the first six", x.end(6), true);
        Check.due("six", x.count(7), 6);
        Check.due("feed behind six", x.feed(0x07070707, 0, 0, 0, 0), 26);
        Check.due("end(8)", x.end(8), true);
        Check.due("lay", x.lay(), 8);
        Check.dueRow("what was cut is gone", x, 0, 0, 1, 2, 3, 4, 5, 7, 7);
        x.feed(0, 0, 0, 0, 0);
        Check.due("none of it", x.end(0), true);
        Check.due("none", x.count(7), 0);
        StruckWords y = Check.tongue("word ab;word abc;sort s begins ends;reads ab s;");
        for (int size = 1; size <= 4; size++) {
            Check.tape(y, "abcdabcdabcdabcdabcd");
            y.end(size);
            Check.due("letters that were cut are not read, " + size, y.text(), size == 2 || size == 3 ? 1 : -1);
            Check.due("the one that is there", y.fault(), size == 2 || size == 3 ? 0 : 3);
        }
        Check.tape(y, "sort a;sort b;sort c");
        y.end(13);
        Check.due("a semicolon that was cut is not read", y.tongue(), -14);
        StruckWords z = Check.tongue("sort s begins ends;word a;reads a s;");
        z.feed(0x09090909, 0x63636363, 0, 0, 0);
        z.end(4);
        Check.due("goals that were cut do not count", z.find(3), 1);
    }

    private static void endRefused() {
        Edge.says("Promise 3", "false, if it has not so many, or n is below 0.");
        StruckWords x = new StruckWords();
        Check.due("one of none", x.end(1), false);
        x.feed(0, 0, 0, 0, 0);
        for (int n : new int[] {21, 22, 940, Integer.MAX_VALUE, -1, -20, Integer.MIN_VALUE}) {
            Check.due("end(" + n + ")", x.end(n), false);
            Check.due("the tape stays", x.count(7), 20);
        }
        x.end(19);
        Check.due("what was cut is none of it", x.end(20), false);
        Check.due("the tape stays", x.count(7), 19);
    }

    private static void tongueIsNow() {
        Edge.says("Promise 4", "The tape (empty then, here and below) is the TONGUE now: how many LINES;");
        StruckWords x = new StruckWords();
        Check.due("an empty tape", x.tongue(), 0);
        Check.tape(x, "sort a begins ends;sort b;mark m;word w;word v;reads w a;");
        Check.due("six lines", x.tongue(), 6);
        int[] counts = {2, 1, 2, 3, 1, 0, 0, 0};
        for (int what = 0; what < 8; what++) {
            Check.due("count(" + what + ")", x.count(what), counts[what]);
        }
        Check.due("nothing is left of it", x.end(1), false);
        tapeIsEmptied();
        tapeStays();
    }

    /** Each call that uses the tape, answering well and not. */
    private static void tapeIsEmptied() {
        int[][] tapes = {{}, {0}, {99}, {9, 9, 9, 9}, {9, 9, 9, 10}, {0, 0}, {'v'}, {'v', ' ', '#'}, new int[30]};
        for (int[] tape : tapes) {
            for (int most : new int[] {0, 1, 7}) {
                StruckWords x = Check.tongue("sort a begins ends;word v;reads v a;");
                for (int call = 0; call < 7; call++) {
                    Check.tape(x, tape);
                    useTape(x, call, most);
                    Check.due("the tape behind call " + call + " with " + most, x.count(7), 0);
                }
            }
        }
    }

    private static void useTape(StruckWords x, int call, int most) {
        switch (call) {
            case 0: x.text(); break;
            case 1: x.lay(); break;
            case 2: x.find(most); break;
            case 3: x.cheapest(most); break;
            case 4: x.verse(most == 7 ? 55 : 1, most); break;
            case 5: x.torn(1, most); break;
            default: x.tongue(); break;
        }
    }

    private static void tapeStays() {
        StruckWords x = Check.tongue(MeaningTest.SWITCH);
        Check.text(x, "on on");
        x.feed(0, 0, 0, 0, 0);
        x.fault();
        x.word(0, 0);
        x.becomes(0, 0, 0);
        x.alike(0);
        x.drawn(3, 3);
        x.left(0);
        x.leftAt(0, 0);
        x.means(0);
        x.readings(0);
        x.sortAt(0, 0);
        x.turns();
        x.against(0);
        x.twice(1, 1);
        x.standIn(0);
        x.safe();
        x.known(0, 0);
        x.scans(0);
        x.letters(0);
        x.longer(1, 6);
        x.foundAt(0);
        x.sayable(3);
        x.link(2);
        x.lend(2);
        x.other(2, 1, 1, 3);
        x.mend();
        x.sure(0);
        x.likeliest();
        x.add();
        x.take(0);
        x.book(0);
        x.image(0);
        x.restore(0);
        Check.due("what does not use it leaves the tape", x.count(7), 20);
    }

    private static void tongueStays() {
        Edge.says("Promise 4", "-1 less the place of a FAULT: it stays.");
        StruckWords x = Check.tongue(MeaningTest.SWITCH + "edict 4 2;clerk 1 3;");
        Check.text(x, "on flip and off");
        x.add();
        Check.text(x, "on flip flip");
        String shape = Check.shape(x);
        String[] told = {"^;", "sort a;mark b;word w;edict 5 4;^edict", "sort a begins ends;word v beats 3;reads v ^b;",
            "edict 5 ^5;", "mark a;mark b;mark c;^mark d;"};
        int[] kinds = {1, 3, 3, 2, 4};
        for (int i = 0; i < told.length; i++) {
            Check.dueTongue(x, told[i].replace("^", ""), -1 - told[i].indexOf('^'), kinds[i]);
            Check.dueShape("it stays behind " + told[i], x, shape);
        }
        Check.tape(x, Check.filled("sort a;", 901, ""));
        Check.due("901 bytes", x.tongue(), -901);
        Check.dueShape("it stays behind 901 bytes", x, shape);
        // What a tongue with a FAULT has told is no part of the next one.
        String faulty = "edict 5 4;clerk 1 9;sort s begins ends;sort r begins ends;mark m;word w beats 9 weighs 9 costs 9 idle;"
            + "follow s s;follow r s;reads w s sets m;reads w r;word w";
        Check.dueTongue(x, faulty, -faulty.length(), 3);
        Check.dueTongue(x, "sort s;sort r begins;word w;reads w s;reads w r;", 5, 0);
        int[] counts = {2, 0, 1, 3, 1, 0, 0, 0};
        for (int what = 0; what < 8; what++) {
            Check.due("count(" + what + ")", x.count(what), counts[what]);
        }
        for (int what = 0; what < 5; what++) {
            Check.due("word(0, " + what + ")", x.word(0, what), what == 3 ? 0 : what == 4 ? 2 : 1);
        }
        Check.due("no changes", x.becomes(0, 0, 0), 0);
        Check.lay(x, 0);
        Check.due("no sort ends", x.readings(0), 0);
        Check.dueTongue(x, "sort s ends;sort r begins ends;word w;reads w s;reads w r;", 5, 0);
        Check.lay(x, 0);
        Check.due("s does not begin", x.readings(0), 1);
        Check.lay(x, 0, 0);
        Check.due("nothing follows", x.readings(0), 0);
        Check.due("the first place", placeOf("#"), -1);
        Check.due("the second", placeOf(" #"), -2);
        Check.due("the last but one", placeOf(Check.filled("", 899, "#")), -899);
        Check.due("the last", placeOf(Check.filled("", 900, "#")), -900);
    }

    private static int placeOf(String text) {
        StruckWords x = new StruckWords();
        Check.tape(x, text);
        return x.tongue();
    }

    private static void kindOfFault() {
        Edge.says("Promise 5", "The kind of the FAULT of the latest tongue() or text();");
        StruckWords x = Check.tongue("word a;");
        Check.dueTongue(x, "word b weighs 0;", -15, 2);
        Check.dueText(x, "b", -1, 3);
        Check.dueTongue(x, ";", -1, 1);
        Check.dueText(x, "a a a a a a a a a a a a a a a a a a a a a a a a a", -49, 4);
        x.lay();
        x.drawn(3, 3);
        x.find(1);
        x.torn(1, 1);
        x.image(0);
        x.restore(0);
        x.feed(0, 0, 0, 0, 0);
        x.end(0);
        Check.due("other calls leave it", x.fault(), 4);
        Check.due("asking leaves it", x.fault(), 4);
    }

    private static void noFault() {
        Edge.says("Promise 5", "0 without one and ahead of any.");
        Check.due("ahead of any", new StruckWords().fault(), 0);
        StruckWords x = new StruckWords();
        Check.dueText(x, "#", -1, 1);
        Check.dueText(x, "", 0, 0);
        Check.dueText(x, "#", -1, 1);
        Check.dueTongue(x, "word a;", 1, 0);
        Check.dueTongue(x, "#", -1, 1);
        Check.dueText(x, "a", 1, 0);
    }

    private static void wordTells() {
        Edge.says("Promise 6", "Of SAYING w: 0 beats, 1 weighs, 2 costs, 3 idle (1, 0), 4 with how many SORTS it reads.");
        StruckWords x = Check.tongue("sort p;sort q;sort r;sort s;sort t;word a beats 0 weighs 60 costs 99 idle;"
            + "word b beats 9 weighs 1 costs 0;word c;reads a p;reads a q;reads a r;reads a s;reads a t;reads c t;");
        int[][] told = {{0, 60, 99, 1, 5}, {9, 1, 0, 0, 0}, {1, 1, 1, 0, 1}};
        for (int w = 0; w < 3; w++) {
            for (int what = 0; what < 5; what++) {
                Check.due("word(" + w + ", " + what + ")", x.word(w, what), told[w][what]);
            }
        }
    }

    private static void noSuchWord() {
        Edge.says("Promise 6", "NoSuchElementException: no such ones.");
        StruckWords x = Check.tongue("sort s;word a;word b;");
        for (int what = -1; what <= 5; what++) {
            int asked = what;
            Check.dueThrow("word(2, " + what + ")", () -> x.word(2, asked));
            Check.dueThrow("word(-1, " + what + ")", () -> x.word(-1, asked));
            Check.dueThrow("word of no sayings", () -> new StruckWords().word(0, asked));
        }
        Check.dueThrow("word(0, 5)", () -> x.word(0, 5));
        Check.dueThrow("word(1, -1)", () -> x.word(1, -1));
        Check.dueThrow("word(7, 0)", () -> x.word(7, 0));
        Check.dueThrow("word(8, 0)", () -> x.word(8, 0));
        for (int far : FAR) {
            Check.dueThrow("word(" + far + ", 0)", () -> x.word(far, 0));
            Check.dueThrow("word(0, " + far + ")", () -> x.word(0, far));
        }
        Check.due("the last saying is there", x.word(1, 4), 0);
    }

    private static void becomes() {
        Edge.says("Promise 7", "The MEANING that SAYING w, read as a SORT, makes of MEANING m;");
        StruckWords x = Check.tongue("sort p;sort q;mark l;mark m;mark n;word a;word b;"
            + "reads a p sets l clears m turns n;reads b p;reads b q turns l turns m turns n;");
        int[] made = {5, 5, 5, 5, 1, 1, 1, 1};
        for (int m = 0; m < 8; m++) {
            Check.due("becomes(0, 0, " + m + ")", x.becomes(0, 0, m), made[m]);
            Check.due("becomes(1, 0, " + m + ")", x.becomes(1, 0, m), m);
            Check.due("becomes(1, 1, " + m + ")", x.becomes(1, 1, m), 7 - m);
        }
    }

    private static void becomesNone() {
        Edge.says("Promise 7", "NONE: it does not read so, no such ones.");
        StruckWords x = Check.tongue("sort p;sort q;word a;word b;reads a p;reads b q;");
        for (int m = 0; m < 8; m++) {
            Check.due("a does not read as q", x.becomes(0, 1, m), -1);
            Check.due("b does not read as p", x.becomes(1, 0, m), -1);
        }
        int[][] none = {{2, 0, 0}, {-1, 0, 0}, {0, 2, 0}, {0, -1, 0}, {0, 0, 8}, {0, 0, -1}, {7, 4, 7}, {8, 5, 8},
            {1, 0, 8}, {0, 5, 0}};
        for (int[] no : none) {
            Check.due("becomes of none such", x.becomes(no[0], no[1], no[2]), -1);
        }
        for (int far : FAR) {
            Check.due("becomes(" + far + ", 0, 0)", x.becomes(far, 0, 0), -1);
            Check.due("becomes(0, " + far + ", 0)", x.becomes(0, far, 0), -1);
            Check.due("becomes(0, 0, " + far + ")", x.becomes(0, 0, far), -1);
        }
        Check.due("an empty tongue", new StruckWords().becomes(0, 0, 0), -1);
        Check.due("no sorts", Check.tongue("word a;").becomes(0, 0, 0), -1);
    }

    /** Looks at what is LEFT of so many SAYINGS, by their places. */
    private static void dueLeft(int n, int run, int size, int b, int... places) {
        StruckWords x = Check.tongue("edict " + n + " " + run + ";" + EIGHT);
        int[] row = new int[size];
        for (int i = 0; i < size; i++) {
            row[i] = i % 8;
        }
        Check.lay(x, row);
        int[] left = new int[places.length];
        for (int i = 0; i < places.length; i++) {
            left[i] = (places[i] - 1) % 8;
        }
        Check.dueRow(n + " " + run + " by " + b + " of " + size, x, b, left);
    }

    private static void struckPlaces() {
        Edge.says(TERMS, "LEFT by beginning b (1 to N): SAYINGS at the places (from 1) b, and RUN less 1 behind it, "
            + "b and N, and RUN less 1 behind that, and so on, are struck");
        dueLeft(3, 1, 8, 1, 2, 3, 5, 6, 8);
        dueLeft(3, 1, 8, 2, 1, 3, 4, 6, 7);
        dueLeft(3, 1, 8, 3, 1, 2, 4, 5, 7, 8);
        dueLeft(3, 2, 8, 1, 3, 6);
        // Places ahead of b are not struck, though a run from b less N on would reach them.
        dueLeft(3, 2, 8, 2, 1, 4, 7);
        dueLeft(3, 2, 8, 3, 1, 2, 5, 8);
        dueLeft(2, 1, 5, 1, 2, 4);
        dueLeft(2, 1, 5, 2, 1, 3, 5);
        dueLeft(5, 4, 11, 1, 5, 10);
        dueLeft(5, 4, 11, 5, 1, 2, 3, 4, 9);
        dueLeft(5, 1, 11, 5, 1, 2, 3, 4, 6, 7, 8, 9, 11);
        dueLeft(4, 2, 24, 4, 1, 2, 3, 6, 7, 10, 11, 14, 15, 18, 19, 22, 23);
    }

    private static void asFarAsThereAreSome() {
        Edge.says(TERMS, "(as far as there are some).");
        dueLeft(3, 1, 0, 1);
        dueLeft(3, 1, 1, 1);
        dueLeft(3, 1, 1, 2, 1);
        dueLeft(3, 1, 2, 3, 1, 2);
        dueLeft(5, 4, 2, 1);
        dueLeft(5, 4, 3, 2, 1);
        dueLeft(5, 4, 4, 5, 1, 2, 3, 4);
        dueLeft(5, 4, 5, 5, 1, 2, 3, 4);
        dueLeft(5, 4, 7, 1, 5);
        dueLeft(4, 3, 24, 1, 4, 8, 12, 16, 20, 24);
        dueLeft(4, 3, 24, 2, 1, 5, 9, 13, 17, 21);
    }

    private static void leftByAll() {
        Edge.says(TERMS, "LEFT by 0: all.");
        dueLeft(2, 1, 3, 0, 1, 2, 3);
        dueLeft(5, 4, 0, 0);
        dueLeft(5, 4, 24, 0, 1, 2, 3, 4, 5, 6, 7, 8, 9, 10, 11, 12, 13, 14, 15, 16, 17, 18, 19, 20, 21, 22, 23, 24);
    }

    private static void textSizes() {
        Edge.says(TERMS, "A TEXT is { SAID }, 24 at most, of at most 200 bytes.");
        StruckWords x = Check.tongue("word a;word abcdef;");
        String twentyFour = "a a a a a a a a a a a a a a a a a a a a a a a a";
        Check.dueText(x, "", 0, 0);
        Check.dueText(x, " \n", 0, 0);
        Check.dueText(x, twentyFour, 24, 0);
        Check.dueText(x, twentyFour + " a", -49, 4);
        Check.dueText(x, Check.filled(twentyFour, 200, ""), 24, 0);
        Check.dueText(x, Check.filled("a", 200, "abcdef"), 2, 0);
        Check.dueText(x, Check.filled("a", 201, "abcdef"), -201, 1);
        Check.dueText(x, Check.filled("a", 201, ""), -201, 1);
        Check.dueText(x, Check.filled("", 200, ""), 0, 0);
        Check.dueText(x, Check.filled("", 201, ""), -201, 1);
    }

    private static void textFaultOne() {
        Edge.says(TERMS, "FAULTS: 1;");
        StruckWords x = Check.tongue("sort s;word a;word abcdef;");
        Check.faultOfText(x, 1, "^;");
        Check.faultOfText(x, 1, "a ^; a");
        Check.faultOfText(x, 1, "a ^7");
        Check.faultOfText(x, 1, "a ^sort");
        Check.faultOfText(x, 1, "a^.");
        Check.faultOfText(x, 1, "a ^abcdefg");
        Check.dueText(x, Check.filled("a", 940, "a"), -201, 1);
        Check.dueText(x, Check.filled("a", 201, "#"), -201, 1);
        Check.dueText(x, Check.filled("a", 201, "##"), -200, 1);
        Check.dueText(x, Check.filled("a", 205, "abcdef"), -201, 1);
        Check.dueText(x, Check.filled("a", 206, "abcdefg"), -200, 1);
        Check.dueText(x, Check.filled("a", 205, "abcdeg"), -200, 3);
        Check.dueText(x, Check.filled("a", 206, "abcdeg"), -201, 1);
        Check.dueText(x, Check.filled("a b", 300, ""), -3, 3);
    }

    private static void textFaultThree() {
        Edge.says(TERMS, "3 no such SAYING;");
        StruckWords x = Check.tongue("sort s;mark m;word a;word ab;");
        Check.faultOfText(x, 3, "^b");
        Check.faultOfText(x, 3, "a ab ^b");
        Check.faultOfText(x, 3, "a ^abc a");
        Check.faultOfText(x, 3, "a ^s");
        Check.faultOfText(x, 3, "a ^m");
        Check.dueText(new StruckWords(), "a", -1, 3);
        Check.dueTongue(x, "sort s;", 1, 0);
        Check.faultOfText(x, 3, "^a");
    }

    private static void textFaultFour() {
        Edge.says(TERMS, "4 a 25th one.");
        StruckWords x = Check.tongue("word a;");
        String twentyFour = "a a a a a a a a a a a a a a a a a a a a a a a a";
        Check.faultOfText(x, 4, twentyFour + " ^a");
        Check.faultOfText(x, 4, twentyFour + "\n\n^a a #");
        Check.dueText(x, Check.filled(twentyFour, 200, "a"), -200, 4);
        Check.dueText(x, Check.filled(twentyFour, 201, "a"), -201, 1);
    }

    private static void textIsNow() {
        Edge.says("Promise 8", "The tape is the TEXT now: how many SAYINGS;");
        StruckWords x = Check.tongue(EIGHT);
        Check.dueText(x, "h a g", 3, 0);
        Check.dueRow("the text", x, 0, 7, 0, 6);
        Check.dueText(x, "b", 1, 0);
        Check.dueRow("another text", x, 0, 1);
        Check.dueText(x, "", 0, 0);
        Check.dueRow("an empty text", x, 0);
        Check.due("the tongue stays", x.count(2), 8);
    }

    private static void textStays() {
        Edge.says("Promise 8", "-1 less the place of a FAULT: it stays.");
        StruckWords x = Check.tongue(EIGHT);
        Check.text(x, "h a g");
        Check.faultOfText(x, 3, "a b ^i");
        Check.dueRow("the text stays", x, 0, 7, 0, 6);
        Check.faultOfText(x, 1, "^#");
        Check.faultOfText(x, 4, "a a a a a a a a a a a a a a a a a a a a a a a a ^a");
        Check.dueText(x, Check.filled("a", 201, ""), -201, 1);
        Check.dueRow("the text stays", x, 0, 7, 0, 6);
    }

    private static void layIsNow() {
        Edge.says("Promise 9", "The TEXT is the tape's bytes, SAYINGS by their numbers: how many;");
        StruckWords x = Check.tongue(EIGHT);
        Check.lay(x, 7, 0, 6);
        Check.dueRow("the text", x, 0, 7, 0, 6);
        Check.lay(x, new int[24]);
        Check.due("24", x.count(5), 24);
        Check.due("an empty tape", x.lay(), 0);
        Check.due("an empty text", x.count(5), 0);
        Check.due("an empty tape without sayings", new StruckWords().lay(), 0);
    }

    private static void layRefused() {
        Edge.says("Promise 9", "NONE: one is none, or more than 24: it stays.");
        StruckWords x = Check.tongue("word a;word b;word c;");
        Check.lay(x, 2, 0, 1);
        int[][] tapes = {{3}, {0, 3}, {3, 0}, {255}, {0, 0, 128}, new int[25], new int[26], new int[200]};
        for (int[] tape : tapes) {
            Check.tape(x, tape);
            Check.due("lay of " + tape.length, x.lay(), -1);
            Check.dueRow("it stays", x, 0, 2, 0, 1);
        }
        StruckWords none = new StruckWords();
        Check.tape(none, 0);
        Check.due("no sayings", none.lay(), -1);
    }

    private static void alike() {
        Edge.says("Promise 10", "SAYINGS (itself, too), as bits, that read with the same SORTS as SAYING w "
            + "and make the same of each MEANING;");
        StruckWords x = Check.tongue("sort p;sort q;mark l;mark m;mark n;word a;word b;word c;word d;word e;word f;word g;word h;"
            + "reads a p sets n;reads b p turns n;reads c p sets n;reads d q sets n;reads e p sets n;reads e q;"
            + "reads f p turns n sets n;reads g p clears n;");
        // b makes the same as a of four MEANINGS alone; e reads with one SORT more; h with none.
        int[] due = {1 | 4 | 32, 2, 1 | 4 | 32, 8, 16, 1 | 4 | 32, 64, 128};
        for (int w = 0; w < 8; w++) {
            Check.due("alike(" + w + ")", x.alike(w), due[w]);
        }
        StruckWords y = Check.tongue("sort p;sort q;sort r;sort s;sort t;mark m;" + EIGHT + "reads h t sets m;reads g t;");
        Check.due("the last sort counts", y.alike(7), 128);
        Check.due("without changes", y.alike(6), 64);
        Check.due("all that read with none", y.alike(0), 63);
    }

    private static void alikeNone() {
        Edge.says("Promise 10", "NONE: no such one.");
        StruckWords x = Check.tongue("word a;word b;");
        Check.due("alike(1)", x.alike(1), 3);
        Check.due("alike(2)", x.alike(2), -1);
        Check.due("alike(-1)", x.alike(-1), -1);
        Check.due("alike(8)", x.alike(8), -1);
        Check.due("no sayings", new StruckWords().alike(0), -1);
        for (int far : FAR) {
            Check.due("alike(" + far + ")", x.alike(far), -1);
        }
    }

    private static void drawnWraps() {
        Edge.says(TERMS, "DRAWN by a seed x: for each draw of n x becomes x * 1103515245 + 12345 (an int, wrapping), "
            + "the draw is (x >>> 8) % n:");
        StruckWords x = Check.tongue(EIGHT);
        int[] seeds = {0, 1, 2, -1, 255, 256, 1 << 30, Integer.MAX_VALUE, Integer.MIN_VALUE, 987_654_321, -987_654_321};
        for (int seed : seeds) {
            Check.due("drawn", x.drawn(24, seed), 24);
            java.math.BigInteger now = java.math.BigInteger.valueOf(seed);
            java.math.BigInteger wrap = java.math.BigInteger.ONE.shiftLeft(32);
            for (int i = 0; i < 24; i++) {
                now = now.multiply(java.math.BigInteger.valueOf(1_103_515_245L)).add(java.math.BigInteger.valueOf(12_345))
                    .mod(wrap);
                Check.due("draw " + i + " of " + seed, x.leftAt(0, i), (now.longValue() >> 8) % 8);
            }
        }
    }

    private static void drawnByWeighs() {
        Edge.says(TERMS, "for each SAYING a draw of all WEIGHS together: "
            + "the first one for which those up to it are above the draw.");
        int[][] weighs = {{1}, {60}, {1, 1}, {3, 1, 60}, {60, 60, 60, 60, 60, 60, 60, 60}, {1, 2, 3, 4, 5, 6, 7, 8}};
        for (int[] those : weighs) {
            StringBuilder told = new StringBuilder();
            int all = 0;
            for (int w = 0; w < those.length; w++) {
                told.append("word ").append((char) ('a' + w)).append(" weighs ").append(those[w]).append(';');
                all += those[w];
            }
            StruckWords x = Check.tongue(told.toString());
            for (int seed = 0; seed < 12; seed++) {
                Check.due("drawn", x.drawn(24, seed), 24);
                int now = seed;
                for (int i = 0; i < 24; i++) {
                    now = now * 1103515245 + 12345;
                    Check.due("draw " + i, x.leftAt(0, i), firstAbove(those, (now >>> 8) % all));
                }
            }
        }
    }

    private static int firstAbove(int[] weighs, int draw) {
        int upTo = 0;
        for (int w = 0; w < weighs.length; w++) {
            upTo += weighs[w];
            if (upTo > draw) {
                return w;
            }
        }
        return -1;
    }

    private static void drawnIsNow() {
        Edge.says("Promise 11", "The TEXT is DRAWN, of n SAYINGS (1 to 24): how many;");
        StruckWords x = Check.tongue("word a;");
        for (int n = 1; n <= 24; n++) {
            Check.due("drawn(" + n + ")", x.drawn(n, 5), n);
            Check.due("the text", x.count(5), n);
            Check.due("its last", x.leftAt(0, n - 1), 0);
        }
    }

    private static void drawnRefused() {
        Edge.says("Promise 11", "NONE: not as told, or no SAYINGS (it stays).");
        StruckWords x = Check.tongue(EIGHT);
        Check.lay(x, 7, 0, 6);
        for (int n : new int[] {0, -1, 25, 26, Integer.MAX_VALUE, Integer.MIN_VALUE}) {
            Check.due("drawn(" + n + ")", x.drawn(n, 1), -1);
            Check.dueRow("it stays", x, 0, 7, 0, 6);
        }
        StruckWords none = Check.tongue("sort s begins ends;mark m;");
        Check.due("no sayings", none.drawn(1, 1), -1);
        Check.due("it stays", none.count(5), 0);
        Check.due("no sayings", new StruckWords().drawn(24, 1), -1);
    }

    private static void leftTells() {
        Edge.says("Promise 12", "How many are LEFT of the TEXT by b (0 to N);");
        for (int n = 2; n <= 5; n++) {
            for (int run = 1; run < n; run++) {
                StruckWords x = Check.tongue("edict " + n + " " + run + ";" + EIGHT);
                for (int size = 0; size <= 24; size += 6) {
                    Check.lay(x, new int[size]);
                    for (int b = 0; b <= n; b++) {
                        Check.due("left(" + b + ") of " + size, x.left(b), leftOf(size, n, run, b));
                    }
                }
            }
        }
    }

    private static int leftOf(int size, int n, int run, int b) {
        boolean[] struck = new boolean[size + n + run + 1];
        for (int from = b; b > 0 && from <= size; from += n) {
            for (int place = from; place < from + run; place++) {
                struck[place] = true;
            }
        }
        int left = 0;
        for (int place = 1; place <= size; place++) {
            left += struck[place] ? 0 : 1;
        }
        return left;
    }

    private static void leftNone() {
        Edge.says("Promise 12", "NONE: no such one.");
        for (int n = 2; n <= 5; n++) {
            StruckWords x = Check.tongue("edict " + n + " 1;" + EIGHT);
            Check.lay(x, 0, 1, 2, 3, 4, 5, 6);
            Check.due("left(N)", x.left(n) >= 0, true);
            for (int b : new int[] {-1, n + 1, n + 2, Integer.MIN_VALUE, Integer.MAX_VALUE}) {
                Check.due("left(" + b + ") of " + n, x.left(b), -1);
            }
        }
        Check.due("left(4) of a new object", new StruckWords().left(4), -1);
        Check.due("left(3) of a new object", new StruckWords().left(3), 0);
    }

    private static void leftAtTells() {
        Edge.says("Promise 13", "The i-th (from 0) that is LEFT by b;");
        StruckWords x = Check.tongue("edict 4 2;" + EIGHT);
        Check.lay(x, 0, 1, 2, 3, 4, 5, 6, 7);
        int[][] left = {{0, 1, 2, 3, 4, 5, 6, 7}, {2, 3, 6, 7}, {0, 3, 4, 7}, {0, 1, 4, 5}, {0, 1, 2, 5, 6}};
        for (int b = 0; b <= 4; b++) {
            for (int i = 0; i < left[b].length; i++) {
                Check.due("leftAt(" + b + ", " + i + ")", x.leftAt(b, i), left[b][i]);
            }
        }
    }

    private static void leftAtNone() {
        Edge.says("Promise 13", "NONE: no such ones.");
        StruckWords x = Check.tongue("edict 4 2;" + EIGHT);
        Check.lay(x, 0, 1, 2, 3, 4, 5, 6, 7);
        int[] sizes = {8, 4, 4, 4, 5};
        for (int b = 0; b <= 4; b++) {
            for (int i : new int[] {-1, sizes[b], sizes[b] + 1, 24, 25, Integer.MIN_VALUE, Integer.MAX_VALUE}) {
                Check.due("leftAt(" + b + ", " + i + ")", x.leftAt(b, i), -1);
            }
        }
        for (int b : new int[] {-1, 5, 6, Integer.MIN_VALUE, Integer.MAX_VALUE}) {
            Check.due("leftAt(" + b + ", 0)", x.leftAt(b, 0), -1);
        }
        Check.due("no text", new StruckWords().leftAt(0, 0), -1);
    }
}
