import java.util.function.Supplier;

/** What there is, promises 9 to 20 but for 17: each sentence that names a boundary, from both sides. */
public final class Boundary09To20Test {
    private static final int BAD = Boundary.BAD;
    private static final int OTHER = Boundary.OTHER;
    private static final int NOTHING = Boundary.NOTHING;
    private static final int STUCK = Boundary.STUCK;
    private static final int FULL = Boundary.FULL;
    private static final int NONE = Boundary.NONE;
    private static final int LOW = Boundary.LOW;
    private static final int HIGH = Boundary.HIGH;
    private static final Supplier<TownRiverBeast> RICH = Worlds::rich;
    private static final Supplier<TownRiverBeast> NEW = TownRiverBeast::new;

    private static void promise9() {
        Boundary.at(9, "BAD");
        for (int n : new int[] {0, 6, -1, LOW, HIGH}) {
            Boundary.refused("columns " + n, BAD, NEW, x -> x.columns(n));
        }
        Boundary.at(9, "COLUMNS become n: what they were");
        TownRiverBeast x = new TownRiverBeast();
        Boundary.due("at first", 4, x.columns(5));
        Boundary.due("the most", 5, x.columns(1));
        Boundary.due("the least", 1, x.columns(1));
        Boundary.due("now", 1, x.status(0));
        x.person();
        Boundary.due("people don't matter", 1, x.columns(2));
        Boundary.at(9, "STUCK: there are WORDS");
        Boundary.refused("one WORD", STUCK, () -> Worlds.words(1), y -> y.columns(5));
        Boundary.refused("as many as there are", STUCK, () -> Worlds.words(1), y -> y.columns(4));
        Boundary.refused("24 WORDS", STUCK, () -> Worlds.words(24), y -> y.columns(5));
        Boundary.refused("BAD is ahead", BAD, RICH, y -> y.columns(6));
        Boundary.refused("BAD is ahead", BAD, RICH, y -> y.columns(0));
        x.image();
        x.word(0, 0, 0, 1, 0);
        Boundary.due("a WORD", STUCK, x.columns(5));
        x.back();
        Boundary.due("the WORD is no more", 2, x.columns(5));
    }

    private static void promise10() {
        Boundary.at(10, "A WORD: its number");
        TownRiverBeast x = new TownRiverBeast();
        Boundary.due("the least", 0, x.word(0, 0, 0, 1, 0));
        Boundary.due("the most", 1, x.word(5, 25, 3, 60, 9));
        int[][] wants = {{0, 0, 0, 1, 0, 0, 0}, {5, 25, 3, 60, 9, 0, 0}};
        for (int w = 0; w < 2; w++) {
            for (int what = 0; what < 7; what++) {
                Boundary.due("word " + w + " " + what, wants[w][what], x.wordOf(w, what));
            }
        }
        Boundary.at(10, "BAD");
        int[][] wrong = {{-1, 0, 0, 1, 0}, {6, 0, 0, 1, 0}, {0, -1, 0, 1, 0}, {0, 26, 0, 1, 0}, {0, 0, -1, 1, 0},
            {0, 0, 5, 1, 0}, {0, 0, 0, 0, 0}, {0, 0, 0, 61, 0}, {0, 0, 0, 1, -1}, {0, 0, 0, 1, 10}, {LOW, 0, 0, 1, 0},
            {HIGH, 0, 0, 1, 0}, {0, LOW, 0, 1, 0}, {0, HIGH, 0, 1, 0}, {0, 0, LOW, 1, 0}, {0, 0, HIGH, 1, 0},
            {0, 0, 0, LOW, 0}, {0, 0, 0, HIGH, 0}, {0, 0, 0, 1, LOW}, {0, 0, 0, 1, HIGH}};
        for (int[] r : wrong) {
            Boundary.refused("word " + java.util.Arrays.toString(r), BAD, RICH, y -> y.word(r[0], r[1], r[2], r[3], r[4]));
        }
        for (int n = 1; n <= 5; n++) {
            int columns = n;
            Supplier<TownRiverBeast> world = () -> {
                TownRiverBeast y = new TownRiverBeast();
                y.columns(columns);
                return y;
            };
            Boundary.due("the last of " + n + " columns", 0, world.get().word(0, 0, n - 1, 1, 0));
            Boundary.refused("behind " + n + " columns", BAD, world, y -> y.word(0, 0, columns, 1, 0));
        }
        Boundary.at(10, "FULL");
        Boundary.due("the 24th", 23, Worlds.words(23).word(0, 0, 0, 1, 0));
        Boundary.refused("a 25th", FULL, () -> Worlds.words(24), y -> y.word(0, 0, 0, 1, 0));
        Boundary.refused("BAD is ahead", BAD, () -> Worlds.words(24), y -> y.word(0, 0, 4, 1, 0));
    }

    private static void promise11() {
        Boundary.at(11, "Somebody: the number");
        for (int n = 0; n < 4; n++) {
            TownRiverBeast x = Worlds.people(n);
            Boundary.due("after " + n, n, x.person());
            Boundary.due("no sheet", 0, x.sheetOf(n, NONE));
            Boundary.due("no score", 0, x.score(n));
            Boundary.due("nobody behind", BAD, x.score(n + 1));
        }
        Boundary.at(11, "FULL");
        Boundary.refused("a fifth", FULL, () -> Worlds.people(4), TownRiverBeast::person);
        TownRiverBeast x = Worlds.people(3);
        x.image();
        x.word(0, 0, 0, 1, 0);
        x.person();
        x.knows(3, 0, true);
        Check.sheet(x, 3, 0);
        x.round();
        x.image();
        x.back();
        Boundary.due("four", FULL, x.person());
        x = new TownRiverBeast();
        x.image();
        Check.evening(x, "word 0 0 0 1 0;person;knows 0 0;sheet 0 0");
        x.round();
        Check.evening(x, "sheet 0 0");
        x.back();
        Boundary.due("once more", 0, x.person());
        Boundary.due("with no score", 0, x.score(0));
        Boundary.due("with no sheet", 0, x.sheetOf(0, NONE));
    }

    private static void promise12() {
        Boundary.at(12, "A person KNOWS a WORD, or not: 1; 0 if it was so");
        for (int person : new int[] {0, 3}) {
            for (int word : new int[] {0, 23}) {
                TownRiverBeast x = Worlds.words(24);
                for (int p = 0; p < 4; p++) {
                    x.person();
                }
                String how = person + " of " + word;
                Boundary.due(how + " it was so", 0, x.knows(person, word, false));
                Boundary.due(how, 1, x.knows(person, word, true));
                Boundary.due(how + " bits", 1 << person, x.wordOf(word, 5));
                Boundary.due(how + " it was so", 0, x.knows(person, word, true));
                Boundary.due(how + " bits", 1 << person, x.wordOf(word, 5));
                Boundary.due(how + " another word", 0, x.wordOf(23 - word, 5));
                Boundary.due(how + " and another", 1, x.knows(1, word, true));
                Boundary.due(how + " no more", 1, x.knows(person, word, false));
                Boundary.due(how + " bits", 2, x.wordOf(word, 5));
            }
        }
        Boundary.at(12, "BAD");
        for (boolean is : new boolean[] {true, false}) {
            for (int person : new int[] {-1, 3, LOW, HIGH}) {
                Boundary.refused("person " + person, BAD, RICH, x -> x.knows(person, 0, is));
            }
            for (int word : new int[] {-1, 7, LOW, HIGH}) {
                Boundary.refused("word " + word, BAD, RICH, x -> x.knows(0, word, is));
            }
            Boundary.refused("nobody", BAD, () -> Worlds.words(1), x -> x.knows(0, 0, is));
            Boundary.refused("no words", BAD, () -> Worlds.people(1), x -> x.knows(0, 0, is));
        }
        TownRiverBeast x = Worlds.rich();
        Boundary.due("told as it is", 5, x.sheetOf(0, NONE));
        Boundary.due("a word of a sheet", 1, x.knows(0, 0, false));
        Boundary.due("the sheet stays", 5, x.sheetOf(0, NONE));
    }

    private static void promise13() {
        Boundary.at(Boundary.TERMS, "LETTERS are 0 to 25");
        asked(0, 0, 25);
        Boundary.at(Boundary.TERMS, "NEED (1 to 5; 4 at first)");
        asked(1, 1, 5);
        Boundary.at(Boundary.TERMS, "BELL (1 to 600 seconds; 180 at first)");
        asked(2, 1, 600);
        Boundary.at(Boundary.TERMS, "ALONE in a COLUMN (0 to 50; 20 at first)");
        asked(3, 0, 50);
        Boundary.at(Boundary.TERMS, "OWN (10 at first)");
        asked(4, 0, 50);
        Boundary.at(Boundary.TERMS, "ALIKE (5 at first)");
        asked(5, 0, 50);
        Boundary.at(Boundary.TERMS, "VOTE (0 or 1; 0 at first)");
        asked(6, 0, 1);
        Boundary.at(Boundary.TERMS, "BAR (0 or 1; 0 at first)");
        asked(7, 0, 1);
        Boundary.at(13, "BAD");
        for (int what : new int[] {-1, 8, LOW, HIGH}) {
            Boundary.refused("what " + what, BAD, RICH, x -> x.ask(what, 1));
        }
    }

    private static void asked(int what, int least, int most) {
        int[] first = {0, 4, 180, 20, 10, 5, 0, 0};
        TownRiverBeast x = new TownRiverBeast();
        Boundary.due("at first", first[what], x.ask(what, most));
        Boundary.due("the most", most, x.status(3 + what));
        Boundary.due("the most", most, x.ask(what, least));
        Boundary.due("the least", least, x.status(3 + what));
        Boundary.due("the least", least, x.ask(what, least));
        for (int other = 0; other < 8; other++) {
            Boundary.due("ask " + other, other == what ? least : first[other], x.status(3 + other));
        }
        for (int v : new int[] {least - 1, most + 1, LOW, HIGH}) {
            Boundary.refused("becomes " + v, BAD, RICH, y -> y.ask(what, v));
        }
    }

    private static void promise14() {
        Boundary.at(14, "BAD SHELF, n, person; OTHER; NOTHING; BAD: fewer elements; STUCK: it is WRONG");
        for (int s : new int[] {-1, 8, LOW, HIGH}) {
            Boundary.refused("shelf " + s, BAD, RICH, x -> x.sheet(s, 0, 0));
        }
        for (int n : new int[] {-1, 6, LOW, HIGH}) {
            Boundary.refused(n + " of 40", BAD, RICH, x -> x.sheet(4, n, 0));
            Boundary.refused(n + " ahead of OTHER", BAD, RICH, x -> x.sheet(2, n, 0));
            Boundary.refused(n + " ahead of NOTHING", BAD, RICH, x -> x.sheet(3, n, 0));
        }
        for (int person : new int[] {-1, 3, LOW, HIGH}) {
            Boundary.refused("person " + person, BAD, RICH, x -> x.sheet(0, 0, person));
            Boundary.refused("person " + person + " ahead of OTHER", BAD, RICH, x -> x.sheet(2, 0, person));
            Boundary.refused("person " + person + " ahead of NOTHING", BAD, RICH, x -> x.sheet(3, 0, person));
        }
        for (int n = 0; n <= 5; n++) {
            int many = n;
            Boundary.refused(n + " of a WORD", OTHER, RICH, x -> x.sheet(2, many, 0));
            Boundary.refused(n + " of NOTHING", NOTHING, RICH, x -> x.sheet(3, many, 0));
        }
        Boundary.refused("3 of two", BAD, RICH, x -> x.sheet(1, 3, 0));
        Boundary.refused("2 of two, no WORDS", STUCK, RICH, x -> x.sheet(1, 2, 0));
        Boundary.refused("1 of none", BAD, RICH, x -> x.sheet(6, 1, 0));
        sheetTaken();
        sheetWrong();
    }

    private static void sheetTaken() {
        Boundary.at(14, "SHEET of a person becomes the first n elements (0 to 5) of the ROW in SHELF s: n");
        TownRiverBeast x = Worlds.rich();
        Boundary.due("none of none", 0, x.sheet(6, 0, 0));
        Boundary.due("none of none", 0, x.sheetOf(0, NONE));
        Boundary.due("another's stays", 3, x.sheetOf(1, NONE));
        int[] words = {0, 1, 2, 3, 5};
        for (int n = 5; n >= 0; n--) {
            Boundary.due("first " + n, n, x.sheet(0, n, 0));
            Boundary.due("how many", n, x.sheetOf(0, NONE));
            for (int i = 0; i < n; i++) {
                Boundary.due("in their order", words[i], x.sheetOf(0, i));
            }
        }
        Boundary.due("only the first of 40", 0, x.sheet(4, 0, 2));
        for (int sort = 0; sort < 5; sort++) {
            x.row(3, sort, 40);
            x.set(3, 0, 1);
            Boundary.due("a row of sort " + sort, 1, x.sheet(3, 1, 1));
            Boundary.due("a row of sort " + sort, 1, x.sheetOf(1, 0));
        }
        x.set(0, 0, 6);
        Boundary.due("the sheet stays when the row changes", 1, x.sheetOf(1, 0));
    }

    private static TownRiverBeast withRow(TownRiverBeast x, long... numbers) {
        x.row(3, 3, numbers.length);
        for (int i = 0; i < numbers.length; i++) {
            x.set(3, i, numbers[i]);
        }
        return x;
    }

    /** The same numbers are judged by judge() and refused by sheet() and takes(). */
    static void wrongAt(String how, int place, int person, Supplier<TownRiverBeast> world, long... numbers) {
        Supplier<TownRiverBeast> told = () -> withRow(world.get(), numbers);
        int n = numbers.length;
        if (place == NONE) {
            Boundary.due(how, n, told.get().sheet(3, n, person));
        } else {
            Boundary.refused(how, STUCK, told, x -> x.sheet(3, n, person));
            Boundary.refused(how + ", takes", STUCK, told, x -> x.takes(3, n, person));
        }
        Boundary.told(how + ", judged", place, told, x -> x.judge(3, n, person));
    }

    private static TownRiverBeast barred(int bar) {
        TownRiverBeast x = Worlds.rich();
        x.ask(7, bar);
        return x;
    }

    private static void sheetWrong() {
        Boundary.at(Boundary.TERMS, "A WORD can be on a SHEET of a person, if it is of THE LETTER, of a COLUMN there, KNOWN by them");
        wrongAt("all are fine", NONE, 0, RICH, 5, 3, 2, 1, 0);
        wrongAt("number -1", 0, 0, RICH, -1);
        wrongAt("number 7 of seven words", 1, 0, RICH, 0, 7);
        wrongAt("the least number", 0, 0, RICH, Long.MIN_VALUE);
        wrongAt("the greatest number", 0, 0, RICH, Long.MAX_VALUE);
        wrongAt("2 to the 32nd", 0, 0, RICH, 1L << 32);
        wrongAt("2 to the 32nd less 1", 0, 0, RICH, (1L << 32) - 1);
        wrongAt("another letter", 0, 2, RICH, 6);
        wrongAt("unknown", 0, 1, RICH, 5);
        wrongAt("unknown, behind others", 4, 1, RICH, 0, 1, 2, 3, 5);
        Supplier<TownRiverBeast> letter = () -> {
            TownRiverBeast x = Worlds.rich();
            x.ask(0, 1);
            return x;
        };
        wrongAt("of THE LETTER now", NONE, 2, letter, 6);
        wrongAt("no more of THE LETTER", 0, 0, letter, 0);
        Boundary.at(Boundary.TERMS, "of no COLUMN that another WORD of that SHEET has");
        wrongAt("twice", 1, 0, RICH, 0, 0);
        wrongAt("twice, apart", 4, 0, RICH, 0, 1, 2, 3, 0);
        Supplier<TownRiverBeast> both = () -> {
            TownRiverBeast x = Worlds.rich();
            x.knows(0, 4, true);
            return x;
        };
        wrongAt("one of a column", NONE, 0, both, 4);
        wrongAt("two of a column", 1, 0, both, 4, 0);
        wrongAt("two of a column", 2, 0, both, 0, 1, 4);
        Boundary.at(Boundary.TERMS, "and, if BAR is 1, not USED");
        wrongAt("used, BAR 0", NONE, 0, () -> barred(0), 3);
        wrongAt("used, BAR 1", 0, 0, () -> barred(1), 3);
        wrongAt("not used, BAR 1", NONE, 0, () -> barred(1), 2);
    }

    private static void promise15() {
        Boundary.at(15, "THE TAPE gets one byte (0 to 255) behind it: its size");
        Boundary.due("the least", 1, new TownRiverBeast().feed(0));
        Boundary.due("the most", 1, new TownRiverBeast().feed(255));
        Boundary.due("behind", 14, Worlds.rich().feed(' '));
        Boundary.at(15, "BAD");
        for (int letter : new int[] {-1, 256, LOW, HIGH}) {
            Boundary.refused("byte " + letter, BAD, RICH, x -> x.feed(letter));
        }
        Boundary.at(15, "FULL");
        Boundary.due("the 250th", 250, Worlds.tape(249).feed(' '));
        Boundary.refused("a 251st", FULL, () -> Worlds.tape(250), x -> x.feed(' '));
        Boundary.refused("BAD is ahead", BAD, () -> Worlds.tape(250), x -> x.feed(256));
    }

    private static void promise16() {
        Boundary.at(16, "THE TAPE is empty: its size ahead");
        Boundary.told("it was empty", 0, NEW, TownRiverBeast::wipe);
        for (int n : new int[] {1, 249, 250}) {
            TownRiverBeast x = Worlds.tape(n);
            Boundary.due("of " + n, n, x.wipe());
            Boundary.due("empty", 0, x.status(11));
            Boundary.due("empty", 0, x.wipe());
            Boundary.due("from the first on", 1, x.feed('p'));
            Check.feed(x, "erson");
            Boundary.due("nothing is left of it", 1, x.evening());
        }
    }

    private static void promise18() {
        Boundary.at(18, "BAD");
        for (int what = 0; what < 8; what++) {
            int one = what;
            for (int word : new int[] {-1, 7, LOW, HIGH}) {
                Boundary.refused(what + " of word " + word, BAD, RICH, x -> x.wordOf(word, one));
            }
            Boundary.refused(what + " of no words", BAD, NEW, x -> x.wordOf(0, one));
        }
        for (int what : new int[] {-1, 8, LOW, HIGH}) {
            Boundary.refused("what " + what, BAD, RICH, x -> x.wordOf(0, what));
        }
        Boundary.at(18, "KIND (0), LETTER (1), COLUMN (2), SECONDS (3), a (4)");
        int[][] wants = {{0, 0, 0, 10, 0, 3, 0, 10}, {3, 0, 3, 1, 0, 3, 1, 1}, {0, 1, 0, 5, 0, 4, 0, 5}};
        int[] words = {0, 3, 6};
        for (int k = 0; k < words.length; k++) {
            int word = words[k];
            for (int what = 0; what < 8; what++) {
                int one = what;
                Boundary.told(what + " of word " + word, wants[k][what], RICH, x -> x.wordOf(word, one));
            }
        }
        Boundary.at(18, "who KNOWS it (5, bits)");
        TownRiverBeast x = Worlds.words(24);
        for (int p = 0; p < 4; p++) {
            x.person();
            x.knows(p, 23, true);
            Boundary.due(p + " and those ahead", (2 << p) - 1, x.wordOf(23, 5));
        }
        takesOfWords();
    }

    private static void takesOfWord(int kind, int seconds, int a, int want) {
        TownRiverBeast x = new TownRiverBeast();
        x.word(kind, 0, 0, seconds, a);
        Boundary.due("kind " + kind + ", " + seconds + " seconds, a " + a, want, x.wordOf(0, 7));
    }

    private static void takesOfWords() {
        Boundary.at(Boundary.TERMS, "COMMON (AVOIDED): half of these (cut, 1 at least)");
        int[][] halves = {{1, 1}, {2, 1}, {3, 1}, {4, 2}, {5, 2}, {59, 29}, {60, 30}};
        for (int[] half : halves) {
            takesOfWord(1, half[0], 9, half[1]);
            takesOfWord(3, half[0], 9, half[1]);
        }
        Boundary.at(Boundary.TERMS, "RARE: a more; LONG: 5 more, besides");
        takesOfWord(2, 1, 0, 1);
        takesOfWord(2, 60, 9, 69);
        takesOfWord(5, 1, 0, 6);
        takesOfWord(5, 60, 9, 74);
        Boundary.at(Boundary.TERMS, "TAKES of a WORD: SECONDS");
        takesOfWord(0, 1, 9, 1);
        takesOfWord(0, 60, 9, 60);
        takesOfWord(4, 1, 9, 1);
        takesOfWord(4, 60, 9, 60);
    }

    private static void promise19() {
        Boundary.at(19, "the i-th WORD; how many (i NONE). BAD; STUCK: not so many");
        int[][] sheets = {{0, 1, 2, 3, 5}, {0, 1, 2}, {4}};
        for (int p = 0; p < 3; p++) {
            int person = p;
            int many = sheets[p].length;
            Boundary.told("how many of " + p, many, RICH, x -> x.sheetOf(person, NONE));
            Boundary.told("the first of " + p, sheets[p][0], RICH, x -> x.sheetOf(person, 0));
            Boundary.told("the last of " + p, sheets[p][many - 1], RICH, x -> x.sheetOf(person, many - 1));
            Boundary.refused("behind the last of " + p, STUCK, RICH, x -> x.sheetOf(person, many));
            Boundary.refused("far behind", STUCK, RICH, x -> x.sheetOf(person, HIGH));
            Boundary.refused("i -2", BAD, RICH, x -> x.sheetOf(person, -2));
            Boundary.refused("i the least", BAD, RICH, x -> x.sheetOf(person, LOW));
        }
        Boundary.told("none", 0, () -> Worlds.people(1), x -> x.sheetOf(0, NONE));
        Boundary.refused("none", STUCK, () -> Worlds.people(1), x -> x.sheetOf(0, 0));
        for (int person : new int[] {-1, 3, LOW, HIGH}) {
            Boundary.refused("person " + person, BAD, RICH, x -> x.sheetOf(person, NONE));
            Boundary.refused("person " + person + " ahead of STUCK", BAD, RICH, x -> x.sheetOf(person, 5));
        }
        Boundary.at(Boundary.TERMS, "(A SHEET is told as it is then;");
        TownRiverBeast x = Worlds.rich();
        x.ask(0, 25);
        x.knows(0, 0, false);
        Boundary.due("it stays as it was told", 5, x.sheetOf(0, NONE));
        Boundary.due("it stays as it was told", 0, x.sheetOf(0, 0));
    }

    private static void promise20() {
        Boundary.at(20, "SCORE. BAD");
        for (int person : new int[] {-1, 3, LOW, HIGH}) {
            Boundary.refused("person " + person, BAD, RICH, x -> x.score(person));
        }
        Boundary.refused("nobody", BAD, NEW, x -> x.score(0));
        int[] wants = {0, 20, 0};
        for (int p = 0; p < 3; p++) {
            int person = p;
            Boundary.told("person " + p, wants[p], RICH, x -> x.score(person));
        }
        Boundary.told("the fourth", 0, () -> Worlds.people(4), x -> x.score(3));
    }

    public static void main(String[] args) {
        promise9();
        promise10();
        promise11();
        promise12();
        promise13();
        promise14();
        promise15();
        promise16();
        promise18();
        promise19();
        promise20();
        Boundary.covers(9, 16);
        Boundary.covers(18, 20);
        Check.end();
    }
}
