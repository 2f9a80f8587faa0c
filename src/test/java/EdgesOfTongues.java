/** The terms' sentences on TOKENS, TONGUES and their FAULTS. */
final class EdgesOfTongues {
    private static final String PART = "Terms";
    private static final String FIVE_SORTS = "sort a;sort b;sort c;sort d;sort e;";
    private static final String THREE_MARKS = "mark a;mark b;mark c;";
    private static final String EIGHT_WORDS = "word a;word b;word c;word d;word e;word f;word g;word h;";
    private static final String READS = "mark m;sort a;word b;reads b a";
    private static final String SIX_CHANGES = " sets m sets m sets m sets m sets m turns m";

    private EdgesOfTongues() {
    }

    static void run() {
        blanks();
        words();
        numbers();
        semicolon();
        goesOn();
        noToken();
        size();
        sortLine();
        markLine();
        followLine();
        wordLine();
        readsLine();
        edictLine();
        clerkLine();
        names();
        limits();
        allSorts();
        theFirstFault();
        cannotCome();
        theEnd();
        moreThan900();
        readWhole();
        faultOfNumbers();
        faultOfNames();
        toldTwice();
        sortToldAgain();
        beginningToldAgain();
        edictTold();
        tooMany();
        seventhChange();
    }

    private static void good(int lines, String text) {
        Check.goodTongue(lines, text);
    }

    private static void fault(int kind, String marked) {
        Check.faultOfTongue(kind, marked);
    }

    private static boolean isOfToken(int sign) {
        return sign >= 'a' && sign <= 'z' || sign >= '0' && sign <= '9' || sign == ';';
    }

    private static void blanks() {
        Edge.says(PART, "TOKENS of all texts, with blanks (32, 10) between them or not:");
        good(0, " ");
        good(0, "\n");
        good(1, " \n sort \n\n a \n begins\nends ; \n");
        good(2, "sort a;sort b;");
        for (int sign = 0; sign < 256; sign++) {
            String text = "sort a" + (char) sign + ";sort b;";
            if (sign == 32 || sign == 10) {
                good(2, text);
            } else if (!isOfToken(sign)) {
                Check.dueTongue(text, -7, 1);
            }
        }
        StruckWords x = Check.tongue("word a;word b;");
        Check.dueText(x, "\n a\nb  a\n", 3, 0);
        Check.dueText(x, "a\tb", -2, 1);
        Check.dueText(x, "a\rb", -2, 1);
    }

    private static void words() {
        Edge.says(PART, "WORDS of letters: small letters, 1 to 6;");
        good(4, "sort a;sort z;sort abcdef;sort uvwxyz;");
        fault(1, "sort ^abcdefg;");
        fault(1, "sort ^sortsor;");
        for (char sign : "AZ@[`{_-".toCharArray()) {
            fault(1, "sort ^" + sign + ";");
            fault(1, "sort b^" + sign + ";");
        }
        StruckWords x = Check.tongue("word a;word abcdef;");
        Check.dueText(x, "a abcdef", 2, 0);
        Check.faultOfText(x, 1, "a ^abcdefg");
        Check.faultOfText(x, 1, "a ^A");
    }

    private static void numbers() {
        Edge.says(PART, "NUMBERS: 1 to 2 digits;");
        good(4, "word a costs 0;word b costs 00;word c costs 09;word d costs 99;");
        fault(1, "word a costs ^000;");
        fault(1, "word a costs ^009;");
        fault(1, "word a costs ^100;");
        fault(1, "word a costs ^;");
        fault(1, "word a costs 1^/;");
        fault(1, "word a costs 1^:;");
        fault(1, "word a costs ^-1;");
        fault(1, "word a costs ^+1;");
        StruckWords x = Check.tongue("word a costs 09;word b costs 90;");
        Check.due("09", x.word(0, 2), 9);
        Check.due("90", x.word(1, 2), 90);
    }

    private static void semicolon() {
        Edge.says(PART, "; .");
        good(2, "sort a;mark b ;");
        fault(1, "sort a^:");
        fault(1, "sort a^.");
        fault(1, "sort a;^.");
        fault(1, "^.");
    }

    private static void goesOn() {
        Edge.says(PART, "(A WORD, NUMBER goes on as long as small letters and digits do;");
        fault(1, "sort ^a1;");
        fault(1, "sort ^1a;");
        fault(1, "^sort1 a;");
        fault(1, "word b beats ^1a;");
        fault(1, "word b beats ^1costs 2;");
        fault(1, "word b beats ^12a3;");
        fault(2, "edict ^31;");
        fault(1, "edict 3 ^1clerk;");
        fault(1, "^wordb;");
        fault(1, "sort a ^beginsends;");
        good(1, "sort aends;");
        fault(1, "sort a ^ends1;");
        StruckWords x = Check.tongue("word a;word aa;");
        Check.dueText(x, "aa", 1, 0);
        Check.due("the longer one", x.leftAt(0, 0), 1);
        Check.faultOfText(x, 3, "^aaa");
        Check.faultOfText(x, 1, "^a1");
    }

    private static void noToken() {
        Edge.says(PART, "what is not as told is no TOKEN.)");
        for (int sign = 0; sign < 256; sign++) {
            if (sign != 32 && sign != 10 && !isOfToken(sign)) {
                Check.dueTongue("sort a;" + (char) sign, -8, 1);
                Check.dueTongue("sort " + (char) sign + "b;", -6, 1);
                Check.dueText(Check.tongue("word a;"), "a a" + (char) sign, -4, 1);
            }
        }
        for (char sign : "a0".toCharArray()) {
            String full = Check.filled("", 940, "").replace(' ', sign);
            Check.dueTongue(full, -1, 1);
            Check.dueText(new StruckWords(), full, -1, 1);
            Check.dueTongue("sort " + full.substring(5), -6, 1);
        }
    }

    private static void size() {
        Edge.says(PART, "A TONGUE is a text of at most 900 bytes: { LINE ; }.");
        good(0, "");
        good(1, Check.filled("sort a;", 900, ""));
        good(2, Check.filled("sort a;", 900, "sort b;"));
        Check.dueTongue(Check.filled("sort a;", 901, ""), -901, 1);
        Check.dueTongue(Check.filled("sort a;", 901, "sort b;"), -901, 1);
        Check.dueTongue(Check.filled("", 900, ""), 0, 0);
        Check.dueTongue(Check.filled("", 901, ""), -901, 1);
        Check.dueTongue(Check.filled("", 940, ""), -901, 1);
        fault(1, "sort a^");
        fault(1, "sort a ^sort b;");
        fault(1, "sort a;^;");
        fault(1, "^;");
        fault(1, "^a;");
    }

    private static void sortLine() {
        Edge.says(PART, "LINE: 'sort' NAME { 'begins' | 'ends' } (each once)");
        good(5, "sort a;sort b begins;sort c ends;sort d begins ends;sort e ends begins;");
        fault(3, "sort a begins ^begins;");
        fault(3, "sort a ends ^ends;");
        fault(3, "sort a begins ends ^begins;");
        fault(3, "sort a begins ends ^ends;");
        fault(3, "sort a ends begins ^ends;");
        fault(1, "sort a ^idle;");
        fault(1, "sort^;");
        StruckWords x = Check.tongue("sort a begins;sort b ends;sort c;sort d ends begins;word p;word q;word r;word s;"
            + "reads p a;reads q b;reads r c;reads s d;");
        int[] means = {0, 0, 0, 1};
        for (int w = 0; w < 4; w++) {
            Check.lay(x, w);
            Check.due("begins and ends, " + w, x.means(0), means[w]);
        }
    }

    private static void markLine() {
        Edge.says(PART, "| 'mark' NAME");
        good(1, "mark m;");
        fault(1, "mark^;");
        fault(1, "mark m ^n;");
        fault(1, "mark m ^begins;");
        fault(1, "mark^");
        fault(1, "mark ^5;");
    }

    private static void followLine() {
        Edge.says(PART, "| 'follow' SORT SORT (each two in this order once)");
        good(6, "sort a;sort b;follow a b;follow b a;follow a a;follow b b;");
        fault(3, "sort a;sort b;follow a b;follow a ^b;");
        fault(3, "sort a;follow a a;follow a ^a;");
        fault(1, "sort a;follow a^;");
        fault(1, "sort a;follow^;");
        fault(1, "sort a;follow a a ^a;");
        StruckWords x = Check.tongue("sort a begins ends;sort b begins ends;follow a b;word p;word q;reads p a;reads q b;");
        Check.lay(x, 0, 1);
        Check.due("a b is told", x.means(0), 1);
        Check.lay(x, 1, 0);
        Check.due("b a is not", x.means(0), 0);
        Check.lay(x, 0, 0);
        Check.due("nor a a", x.means(0), 0);
    }

    private static void wordLine() {
        Edge.says(PART, "| 'word' NAME [ 'beats' K ] [ 'weighs' W ] [ 'costs' C ] [ 'idle' ] "
            + "(0 to 9, 1 to 60, 0 to 99; 1 without each)");
        StruckWords x = Check.tongue("word a beats 0 weighs 1 costs 0 idle;word b beats 9 weighs 60 costs 99;word c;"
            + "word d beats 2;word e weighs 2;word f costs 2;word g idle;word h beats 3 costs 4;");
        int[][] told = {{0, 1, 0, 1}, {9, 60, 99, 0}, {1, 1, 1, 0}, {2, 1, 1, 0}, {1, 2, 1, 0}, {1, 1, 2, 0}, {1, 1, 1, 1},
            {3, 1, 4, 0}};
        for (int w = 0; w < 8; w++) {
            for (int what = 0; what < 4; what++) {
                Check.due("word(" + w + ", " + what + ")", x.word(w, what), told[w][what]);
            }
        }
        fault(2, "word a beats ^10;");
        fault(2, "word a weighs ^0;");
        fault(2, "word a weighs ^61;");
        fault(1, "word a costs ^100;");
        fault(1, "word a weighs 1 ^beats 1;");
        fault(1, "word a costs 1 ^weighs 1;");
        fault(1, "word a idle ^costs 1;");
        fault(1, "word a beats 1 ^beats 1;");
        fault(1, "word a weighs 1 ^weighs 1;");
        fault(1, "word a costs 1 ^costs 1;");
        fault(1, "word a idle ^idle;");
        // What the words of an older TONGUE weighed, beat and cost is gone.
        Check.dueTongue(x, "word a;word b;", 2, 0);
        for (int what = 0; what < 4; what++) {
            Check.due("told anew, " + what, x.word(0, what) * 10 + x.word(1, what), what == 3 ? 0 : 11);
        }
    }

    private static void readsLine() {
        Edge.says(PART, "| 'reads' SAID SORT { 'sets' MARK | 'clears' MARK | 'turns' MARK } "
            + "(SAID: a NAME told by 'word'; each with each SORT once; 6 changes at most, in order)");
        good(4, READS + ";");
        good(4, READS + SIX_CHANGES + ";");
        fault(4, READS + SIX_CHANGES + " ^sets m;");
        fault(3, READS + ";reads b ^a;");
        good(8, READS + ";word c;sort d;reads c a;reads b d;");
        fault(3, "sort a;reads ^b a;word b;");
        fault(3, "sort a;mark b;reads ^b a;");
        fault(3, "sort a;reads ^a a;");
        fault(3, "sort a;word b;reads b ^b;");
        fault(3, READS + " sets ^a;");
        fault(3, READS + " clears ^b;");
        fault(3, READS + " turns ^n;");
        fault(1, READS + " sets^;");
        fault(1, READS + " ^m;");
        StruckWords x = Check.tongue("mark m;mark n;mark o;sort a;word b;word c;"
            + "reads b a sets m clears m turns m;reads c a turns n sets n clears o turns o turns o sets m;");
        for (int m = 0; m < 8; m++) {
            Check.due("set, cleared, turned", x.becomes(0, 0, m), m | 1);
            Check.due("six, in order", x.becomes(1, 0, m), m & 3 | 3);
        }
    }

    private static void edictLine() {
        Edge.says(PART, "| 'edict' N RUN (2 to 5; 1 to N less 1; 3 1 without; once, ahead of all clerks)");
        for (int n = 0; n <= 7; n++) {
            for (int run = 0; run <= 6; run++) {
                String told = "edict " + n + " " + run + ";";
                if (n < 2 || n > 5) {
                    Check.dueTongue(told, -7, 2);
                } else if (run < 1 || run > n - 1) {
                    Check.dueTongue(told, -9, 2);
                } else {
                    StruckWords x = Check.tongue(told);
                    Check.due("N", x.count(3), n);
                    Check.due("RUN", x.count(4), run);
                }
            }
        }
        StruckWords x = Check.tongue("edict 5 4;");
        Check.dueTongue(x, "sort a;", 1, 0);
        Check.due("N without", x.count(3), 3);
        Check.due("RUN without", x.count(4), 1);
        fault(3, "edict 3 1;^edict 3 1;");
        fault(3, "clerk 1 1;^edict 3 1;");
        good(3, "edict 4 3;clerk 4 1;clerk 1 1;");
        good(3, "sort a;word b;edict 4 3;");
    }

    private static void clerkLine() {
        Edge.says(PART, "| 'clerk' B W (1 to N; 0 to 9, 1 without; each B once).");
        for (int n = 2; n <= 5; n++) {
            String edict = "edict " + n + " 1;";
            good(2, edict + "clerk 1 0;");
            good(2, edict + "clerk " + n + " 9;");
            fault(2, edict + "clerk ^0 1;");
            fault(2, edict + "clerk ^" + (n + 1) + " 1;");
        }
        good(1, "clerk 3 1;");
        fault(2, "clerk ^4 1;");
        fault(2, "clerk 1 ^10;");
        fault(2, "clerk 1 ^99;");
        fault(3, "clerk 1 1;clerk 2 1;clerk ^1 2;");
        fault(3, "clerk 3 0;clerk ^3 0;");
        fault(1, "clerk 1^;");
        StruckWords x = Check.tongue("sort s begins ends;follow s s;word w;reads w s;edict 4 1;clerk 1 5;clerk 4 0;");
        Check.lay(x, 0);
        // By 1 nothing is left; of 5, 1, 1 and 0 the second and third are known.
        Check.due("known above", x.known(0, 0), 2);
        Check.due("known below", x.known(0, 1), 7);
    }

    private static void names() {
        Edge.says(PART, "NAME: a WORD, none of those told here; told once.");
        for (String keyword : Naive.KEYWORDS) {
            fault(1, "sort ^" + keyword + ";");
            fault(1, "mark ^" + keyword + ";");
            fault(1, "word ^" + keyword + ";");
            fault(1, "sort a;follow ^" + keyword + " a;");
            fault(1, "sort a;reads ^" + keyword + " a;");
            fault(1, READS + " sets ^" + keyword + ";");
            String near = keyword.length() < 6 ? keyword + "s" : keyword.substring(0, 5);
            if (!Naive.KEYWORDS.contains(near)) {
                good(1, "sort " + near + ";");
            }
        }
        String[] lines = {"sort a;", "mark a;", "word a;"};
        for (String one : lines) {
            for (String then : lines) {
                fault(3, one + then.replace("a;", "^a;"));
            }
        }
        good(3, "sort a;mark b;word c;");
    }

    private static void limits() {
        Edge.says(PART, "5 SORTS, 3 MARKS, 8 SAYINGS (told by 'word') at most, each numbered from 0.");
        good(5, FIVE_SORTS);
        good(3, THREE_MARKS);
        good(8, EIGHT_WORDS);
        fault(4, FIVE_SORTS + "^sort f;");
        fault(4, THREE_MARKS + "^mark d;");
        fault(4, EIGHT_WORDS + "^word i;");
        StruckWords x = Check.tongue("sort a begins ends;sort b;sort c;sort d;sort e begins ends;mark f;mark g;mark h;"
            + "word i beats 2;word j;word k;word l;word m;word n;word o;word p beats 3;"
            + "reads i a sets f;reads p e sets h;reads p d;");
        Check.due("sorts", x.count(0), 5);
        Check.due("marks", x.count(1), 3);
        Check.due("sayings", x.count(2), 8);
        Check.due("the first saying", x.word(0, 0), 2);
        Check.due("the last saying", x.word(7, 0), 3);
        Check.due("the first mark", x.becomes(0, 0, 0), 1);
        Check.due("the last mark", x.becomes(7, 4, 0), 4);
        Check.dueText(x, "p", 1, 0);
        Check.due("the last sort", x.sortAt(0, 0), 4);
    }

    /** Each SORT ahead of each, with no other way to begin, to follow or to end, and all MARKS set. */
    private static void allSorts() {
        String five = "abcde";
        for (int one = 0; one < 5; one++) {
            for (int then = 0; then < 5; then++) {
                StringBuilder told = new StringBuilder("mark l;mark m;mark n;word u;");
                for (int i = 0; i < 5; i++) {
                    told.append("sort ").append(five.charAt(i)).append(i == one ? " begins" : "")
                        .append(i == then ? " ends;" : ";");
                    told.append("reads u ").append(five.charAt(i)).append(" sets l sets m sets n;");
                }
                told.append("follow ").append(five.charAt(one)).append(' ').append(five.charAt(then)).append(';');
                StruckWords x = Check.tongue(told.toString());
                int sameAlone = one == then ? 1 << 7 : 0;
                int[] means = {0, sameAlone, 1 << 7, sameAlone, sameAlone};
                for (int size = 0; size < 5; size++) {
                    Check.lay(x, new int[size]);
                    Check.due(one + " " + then + ": means of " + size, x.means(0), means[size]);
                    Check.due(one + " " + then + ": readings of " + size, x.readings(0), means[size] == 0 ? 0 : 1);
                }
                Check.lay(x, 0, 0);
                Check.due("the first sort", x.sortAt(0, 0), one);
                Check.due("the second sort", x.sortAt(0, 1), then);
                Check.due("torn by 3", tornOfTwo(x), 1);
                Check.due("it means all marks", x.sure(0), 1 << 7);
            }
        }
    }

    private static long tornOfTwo(StruckWords x) {
        Check.tape(x, 0, 0);
        return x.torn(3, 2);
    }

    private static void theFirstFault() {
        Edge.says(PART, "FAULTS, the first along the text, of one TOKEN the least:");
        fault(3, "sort a;sort ^a;.");
        fault(1, "sort ^.;sort a;sort a;edict 9 9;");
        fault(2, "edict ^9 9;sort sort;");
        fault(4, FIVE_SORTS + "^sort .;");
        fault(4, FIVE_SORTS + "^sort a;");
        fault(4, THREE_MARKS + "^mark 7;");
        fault(4, EIGHT_WORDS + "^word");
        fault(4, READS + SIX_CHANGES + " ^clears;");
        fault(4, READS + SIX_CHANGES + " ^clears x;");
        // The NUMBER is both no beginning and, as such, not to be told again.
        fault(2, "clerk 1 1;clerk ^0 1;");
        StruckWords x = Check.tongue("word a;");
        String many = "a a a a a a a a a a a a a a a a a a a a a a a a ";
        Check.faultOfText(x, 4, many + "^a");
        Check.faultOfText(x, 3, many + "^b");
        Check.faultOfText(x, 1, many + "^9");
        Check.faultOfText(x, 1, many + "^;");
        Check.faultOfText(x, 3, "a ^b 9");
    }

    private static void cannotCome() {
        Edge.says(PART, "1 no TOKEN, or one that can't come (at it;");
        String[] texts = {"^7", "^;", "^name a;", "^begins;", "^idle;", "^beats 3;", "^sets m;", "sort ^7;", "sort^;",
            "sort a ^7;", "sort a ^b;", "sort a ^mark b;", "mark a ^ends;", "sort a;follow ^7 a;",
            "sort a;follow a ^7;", "sort a;follow a a ^begins;", "word b beats ^c;", "word b beats ^beats;", "word b ^7;",
            "word b ^sets;", "sort a;word b;reads ^7 a;", "sort a;word b;reads b ^7;", "sort a;word b;reads b a ^7;",
            "sort a;word b;reads b a ^begins;", READS + " sets ^7;", READS + " sets ^sets;", "edict ^a 1;", "edict^;",
            "edict 3 ^a;", "edict 3^;", "edict 3 1 ^1;", "clerk ^a 1;", "clerk 1 ^a;", "clerk 1 1 ^1;", "clerk 1 1 ^a;",
            "sort ^#a;", "sort a ^#;", "^#"};
        for (String text : texts) {
            fault(1, text);
        }
    }

    private static void theEnd() {
        Edge.says(PART, "the end: how many bytes there are;");
        String[] texts = {"sort^", "sort  ^", "sort a^", "sort a \n ^", "sort a begins^", "sort a;sort^", "mark^", "mark m^",
            "sort a;follow^", "sort a;follow a^", "sort a;follow a a^", "word^", "word b^", "word b beats^",
            "word b beats 1^", "word b weighs^", "word b costs ^", "word b idle^", "sort a;word b;reads^",
            "sort a;word b;reads b^", READS + "^", READS + " sets^", READS + " sets m^", "edict^", "edict 3^", "edict 3 1^",
            "clerk^", "clerk 1^", "clerk 1 1^"};
        for (String text : texts) {
            fault(1, text);
        }
        Check.dueTongue(Check.filled("sort a", 900, ""), -901, 1);
        Check.dueTongue(Check.filled("sort a", 899, ""), -900, 1);
    }

    private static void moreThan900() {
        Edge.says(PART, "900, if there are more and no FAULT is ahead:");
        for (int size = 901; size <= 940; size++) {
            Check.dueTongue(Check.filled("sort a;", size, ""), -901, 1);
        }
        Check.dueTongue(Check.filled("sort a;", 940, "sort b;"), -901, 1);
        Check.dueTongue(Check.filled("sort a", 940, ";"), -901, 1);
        Check.dueTongue(Check.filled("sort a;", 901, "#"), -901, 1);
        Check.dueTongue(Check.filled("sort a;", 901, ";"), -901, 1);
        Check.dueTongue(Check.filled("sort a;", 901, "##"), -900, 1);
        Check.dueTongue(Check.filled("sort a;", 901, "; "), -900, 1);
        Check.dueTongue(Check.filled("sort a;sort a;", 940, ""), -13, 3);
        Check.dueTongue(Check.filled("edict 9 1;", 940, ""), -7, 2);
        Check.dueTongue(Check.filled(FIVE_SORTS + "sort f;", 940, ""), -36, 4);
        Check.dueTongue(Check.filled("", 940, "#"), -901, 1);
    }

    private static void readWhole() {
        Edge.says(PART, "TOKENS that begin ahead of it are read whole);");
        // The NAMES begin at 899 and go on behind 900.
        Check.dueTongue(Check.filled("sort a;sort", 905, "abcdef"), -901, 1);
        Check.dueTongue(Check.filled("sort abcdef;sort", 905, "abcdef"), -900, 3);
        Check.dueTongue(Check.filled("sort a;sort", 905, "abcdef;"), -901, 1);
        Check.dueTongue(Check.filled("sort a;sort", 906, "abcdefg"), -900, 1);
        Check.dueTongue(Check.filled("sort a;sort", 901, "a1"), -900, 1);
        Check.dueTongue(Check.filled("sort a;follow a", 901, "ab"), -900, 3);
        Check.dueTongue(Check.filled("word a beats", 901, "10"), -900, 2);
        Check.dueTongue(Check.filled("word a beats", 902, "100"), -900, 1);
        Check.dueTongue(Check.filled("word a beats", 901, "09"), -901, 1);
        Check.dueTongue(Check.filled("sort a;", 903, "sort"), -901, 1);
        Check.dueTongue(Check.filled(FIVE_SORTS, 903, "sort"), -900, 4);
        Check.dueTongue(Check.filled("sort a;", 904, "sorts"), -900, 1);
        // They begin at 900: they are not read.
        Check.dueTongue(Check.filled("sort abcdef;sort", 906, "abcdef"), -901, 1);
        Check.dueTongue(Check.filled("word a beats", 903, "100"), -901, 1);
        Check.dueTongue(Check.filled(FIVE_SORTS, 904, "sort"), -901, 1);
    }

    private static void faultOfNumbers() {
        Edge.says(PART, "2 a NUMBER that is not as told (at it);");
        String[] texts = {"word b beats ^10;", "word b beats ^99;", "word b weighs ^0;", "word b weighs ^00;",
            "word b weighs ^61;", "word b beats 1 weighs ^99;", "edict ^0 1;", "edict ^1 1;", "edict ^6 1;", "edict 2 ^0;",
            "edict 2 ^2;", "edict 5 ^5;", "edict 5 ^99;", "clerk ^0 1;", "clerk ^4 1;", "edict 2 1;clerk ^3 1;",
            "clerk 3 ^10;", "edict ^99 99;"};
        for (String text : texts) {
            fault(2, text);
        }
    }

    private static void faultOfNames() {
        Edge.says(PART, "3 a NAME told twice, not told, or of another sort,");
        String[] texts = {"sort a;sort ^a;", "mark a;sort ^a;", "word a;sort ^a;", "sort a;mark ^a;", "mark a;mark ^a;",
            "word a;mark ^a;", "sort a;word ^a;", "mark a;word ^a;", "word a;word ^a;", "follow ^a a;sort a;",
            "sort a;follow a ^b;sort b;", "sort a;reads ^b a;", "word b;reads b ^a;", READS + " sets ^n;mark n;",
            "sort a;mark m;follow ^m a;", "sort a;mark m;follow a ^m;", "sort a;word b;follow ^b a;",
            "sort a;word b;follow a ^b;", "sort a;reads ^a a;", "sort a;mark m;reads ^m a;", "mark m;word b;reads b ^m;",
            "word b;reads b ^b;", READS + " turns ^a;", READS + " turns ^b;"};
        for (String text : texts) {
            fault(3, text);
        }
    }

    private static void toldTwice() {
        Edge.says(PART, "begins or ends told twice,");
        fault(3, "sort a begins ^begins ends;");
        fault(3, "sort a ends ^ends;");
        fault(3, "sort a ends begins ^begins;");
        fault(3, "sort a begins ends ^ends;");
        good(2, "sort a begins;sort b begins;");
    }

    private static void sortToldAgain() {
        Edge.says(PART, "a SORT told again (of follow at the latter, of reads at it),");
        fault(3, "sort a;follow a a;follow a ^a;");
        fault(3, "sort a;sort b;follow b a;follow a b;follow b ^a;");
        fault(3, "sort a;word b;reads b a;reads b ^a;");
        fault(3, "sort a;sort c;word b;reads b c;reads b a;reads b ^c;");
        fault(3, READS + " sets m;reads b ^a clears m;");
    }

    private static void beginningToldAgain() {
        Edge.says(PART, "a B told again (at it),");
        fault(3, "clerk 1 1;clerk ^1 1;");
        fault(3, "edict 5 1;clerk 5 0;clerk 4 0;clerk ^5 99;");
        fault(3, "clerk 2 1;clerk ^02 1;");
        good(3, "clerk 1 1;clerk 2 1;clerk 3 1;");
    }

    private static void edictTold() {
        Edge.says(PART, "edict told twice or behind a clerk (at its WORD);");
        fault(3, "edict 3 1;^edict 4 1;");
        fault(3, "edict 2 1;sort a;^edict;");
        fault(3, "clerk 1 1;^edict 9 9;");
        fault(3, "edict 2 1;clerk 1 1;^edict 2 1;");
        fault(3, "clerk 2 0;sort a;^edict");
    }

    private static void tooMany() {
        Edge.says(PART, "4 a sixth SORT, a fourth MARK, a ninth SAYING (at the LINE's first WORD),");
        fault(4, FIVE_SORTS + " ^sort f;");
        fault(4, FIVE_SORTS + "mark m;^sort;");
        fault(4, THREE_MARKS + "\n^mark d;");
        fault(4, THREE_MARKS + "word w;^mark a;");
        fault(4, EIGHT_WORDS + "^word i;");
        fault(4, EIGHT_WORDS + "sort s;^word sort;");
    }

    private static void seventhChange() {
        Edge.says(PART, "a seventh change (at its WORD).");
        for (String change : new String[] {"sets", "clears", "turns"}) {
            fault(4, READS + SIX_CHANGES + " ^" + change + " m;");
            fault(4, READS + SIX_CHANGES + " ^" + change + " 5;");
        }
        fault(1, READS + SIX_CHANGES + " ^begins;");
        good(6, READS + SIX_CHANGES + ";sort c;reads b c" + SIX_CHANGES + ";");
    }
}
