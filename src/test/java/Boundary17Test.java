import java.util.function.Supplier;

/** Evenings read from the tape, promise 17 and what the Terms say of them: each boundary, from both sides. */
public final class Boundary17Test {
    private static final int NONE = Boundary.NONE;
    private static final Supplier<TownRiverBeast> RICH = Worlds::richButTape;
    private static final Supplier<TownRiverBeast> NEW = TownRiverBeast::new;

    /** The text is an evening; answers the object that has read it. */
    private static TownRiverBeast read(String text, int statements, Supplier<TownRiverBeast> world) {
        TownRiverBeast x = world.get();
        int bad = x.status(12);
        Boundary.due("'" + text + "'", statements, Check.evening(x, text));
        Boundary.due("the tape after '" + text + "'", 0, x.status(11));
        Boundary.due("BAD after '" + text + "'", bad, x.status(12));
        return x;
    }

    private static String times(String part, int n) {
        return part.repeat(n);
    }

    private static void answers() {
        Boundary.at(17, "how many STATEMENTS; -20 less the FAULT (that is refused, too: BAD)");
        read("person", 1, NEW);
        read("person;person;person;person", 4, NEW);
        read(times("need1;", 40) + "need1", 41, NEW);
        Boundary.fault("", 0, RICH);
        Boundary.fault("need 6", 5, RICH);
        Boundary.fault(times(" ", 249) + ";", 249, NEW);
        Boundary.at(17, "THE TAPE is empty then, either way");
        TownRiverBeast x = Worlds.rich();
        Boundary.due("an evening", 2, x.evening());
        Boundary.due("empty", 0, x.wipe());
        Boundary.due("no evening", -20, x.evening());
        Check.feed(x, "x");
        Boundary.due("no evening", -20, x.evening());
        Boundary.due("empty", 0, x.wipe());
        Boundary.due("from the first byte on", 1, Check.evening(x, "need 1"));
    }

    private static void tokens() {
        Boundary.at(Boundary.TERMS, "TOKENS, each as long as can be: WORDS (a .. z), NUMBERS (digits), the SIGN ;");
        Boundary.fault("needa 5", 0, RICH);
        Boundary.fault("needz 5", 0, RICH);
        Boundary.fault("need`5", 4, RICH);
        Boundary.fault("need{5", 4, RICH);
        Boundary.fault("needA5", 4, RICH);
        Boundary.fault("needZ5", 4, RICH);
        Boundary.fault("need 50", 5, RICH);
        Boundary.fault("need 59", 5, RICH);
        Boundary.fault("need 5/", 6, RICH);
        Boundary.fault("need 5:", 6, RICH);
        Boundary.fault("need 5<", 6, RICH);
        Boundary.fault("need 5 0", 7, RICH);
        Boundary.fault("ne ed 5", 0, RICH);
        Boundary.fault("n", 0, RICH);
        Boundary.fault("need5bell6", 5, RICH);
        Boundary.fault("personperson", 0, RICH);
        Boundary.due("digits end a word", 3, read("need3", 1, RICH).status(4));
        Boundary.due("a word ends digits", 20, read("bell20;person", 2, RICH).status(5));
        Boundary.due("9 is a digit", 99, read("bell99", 1, RICH).status(5));
        Boundary.at(Boundary.TERMS, "blanks (32) may stand anywhere between");
        read("  need  3  ;  person  ", 2, RICH);
        read("need3;person", 2, RICH);
        read("person" + times(" ", 244), 1, NEW);
        read(times(" ", 244) + "person", 1, NEW);
        for (int other : new int[] {0, 9, 10, 13, 31, 33, 160, 255}) {
            String sign = String.valueOf((char) other);
            Boundary.fault(sign + "need 3", 0, RICH);
            Boundary.fault("need" + sign + "3", 4, RICH);
            Boundary.fault("need 3" + sign, 6, RICH);
        }
    }

    private static void statements() {
        Boundary.at(Boundary.TERMS, "STATEMENTS, one or more, with ; between");
        Boundary.fault(";", 0, RICH);
        Boundary.fault(";need 3", 0, RICH);
        Boundary.fault("need 3;", 7, RICH);
        Boundary.fault("need 3;;need 3", 7, RICH);
        Boundary.fault("need 3 need 3", 7, RICH);
        Boundary.fault("need 3;3", 7, RICH);
        Boundary.fault("3", 0, RICH);
        for (String name : new String[] {"column", "columnss", "words", "wor", "persons", "know", "knowss", "lette", "letters",
            "needs", "bel", "bells", "point", "pointss", "shee", "sheets", "vote", "bar", "seed", "round"}) {
            Boundary.fault(name + " 1", 0, NEW);
            Boundary.fault("need 1;" + name, 7, RICH);
        }
    }

    private static void columns() {
        Boundary.at(Boundary.TERMS, "columns N (only if there are no WORDS)");
        Boundary.due("the least", 1, read("columns 1", 1, NEW).status(0));
        Boundary.due("the most", 5, read("columns 5", 1, NEW).status(0));
        Boundary.due("twice", 2, read("columns 5;columns 2", 2, NEW).status(0));
        Boundary.due("people don't matter", 2, read("person;columns 2", 2, NEW).status(0));
        Boundary.fault("columns 0", 8, NEW);
        Boundary.fault("columns 6", 8, NEW);
        Boundary.fault("columns", 7, NEW);
        Boundary.fault("columns 5 5", 10, NEW);
        Boundary.due("its own columns count", 4, read("columns 5;word 0 0 4 1 0", 2, NEW).wordOf(0, 2));
        Boundary.fault("columns 4;word 0 0 4 1 0", 19, NEW);
        Boundary.at(Boundary.TERMS, "columns, if there are WORDS: its word");
        Boundary.fault("columns 5", 0, RICH);
        Boundary.fault("columns", 0, RICH);
        Boundary.fault("columns 9", 0, RICH);
        Boundary.fault("need 3; columns 5", 8, RICH);
        Boundary.fault("columns 5;word 0 0 0 1 0;columns 5", 25, NEW);
    }

    /** The statement's numbers at both ends; behind each end the fault is at the number. */
    private static void numbers() {
        Boundary.at(Boundary.TERMS, "also a NUMBER that may not be");
        TownRiverBeast x = read("columns 5;word 0 0 0 1 0;word 5 25 4 60 9", 3, NEW);
        int[] least = {0, 0, 0, 1, 0, 0, 0};
        int[] most = {5, 25, 4, 60, 9, 0, 0};
        for (int what = 0; what < 7; what++) {
            Boundary.due("the least word " + what, least[what], x.wordOf(0, what));
            Boundary.due("the greatest word " + what, most[what], x.wordOf(1, what));
        }
        Boundary.fault("word 6 0 0 1 0", 5, RICH);
        Boundary.fault("word 0 26 0 1 0", 7, RICH);
        Boundary.fault("word 0 0 5 1 0", 9, RICH);
        Boundary.fault("word 0 0 4 1 0", 9, NEW);
        Boundary.fault("word 0 0 0 0 0", 11, RICH);
        Boundary.fault("word 0 0 0 61 0", 11, RICH);
        Boundary.fault("word 0 0 0 1 10", 13, RICH);
        Boundary.fault("word 0 0 0 1 0 0", 15, RICH);
        Boundary.fault("person 0", 7, RICH);
        knowsAndPeople();
        asked("letter", 3, 0, 25);
        asked("need", 4, 1, 5);
        asked("bell", 5, 1, 600);
        for (int k = 0; k < 3; k++) {
            Boundary.due("points " + k, 50 - k, read("points 50 49 48", 1, RICH).status(6 + k));
            Boundary.due("the least points " + k, 0, read("points 0 0 0", 1, RICH).status(6 + k));
            Boundary.due("the most points " + k, 50, read("points 50 50 50", 1, RICH).status(6 + k));
        }
        Boundary.fault("points 51 0 0", 7, RICH);
        Boundary.fault("points 0 51 0", 9, RICH);
        Boundary.fault("points 0 0 51", 11, RICH);
        Boundary.fault("points 0 0 0 0", 13, RICH);
    }

    private static void knowsAndPeople() {
        TownRiverBeast x = read("knows 2 6", 1, Worlds::bare);
        Boundary.due("the last of both", 4, x.wordOf(6, 5));
        Boundary.due("it was so", 3, read("knows 0 0", 1, Worlds::bare).wordOf(0, 5));
        Boundary.due("twice", 5, read("knows 2 5;knows 2 5", 2, Worlds::bare).wordOf(5, 5));
        x = read("person;knows 3 0;word 0 0 0 1 0;knows 3 7", 4, Worlds::bare);
        Boundary.due("somebody new", 11, x.wordOf(0, 5));
        Boundary.due("a new word", 8, x.wordOf(7, 5));
        Boundary.fault("knows 3 0", 6, RICH);
        Boundary.fault("knows 0 7", 8, RICH);
        Boundary.fault("knows 2 6 0", 10, RICH);
        Boundary.fault("knows 0 0", 6, () -> Worlds.words(1));
        Boundary.fault("knows 0 0", 8, () -> Worlds.people(1));
        Boundary.fault("knows 3 0;person", 6, RICH);
    }

    private static void asked(String name, int status, int least, int most) {
        int place = name.length() + 1;
        Boundary.due("the least", least, read(name + " " + least, 1, RICH).status(status));
        Boundary.due("the most", most, read(name + " " + most, 1, RICH).status(status));
        if (least > 0) {
            Boundary.fault(name + " " + (least - 1), place, RICH);
        }
        Boundary.fault(name + " " + (most + 1), place, RICH);
        Boundary.fault(name + " 999", place, RICH);
        Boundary.fault(name + " " + most + " 1", place + String.valueOf(most).length() + 1, RICH);
        Boundary.fault(name + " -1", place, RICH);
    }

    private static void digits() {
        Boundary.at(Boundary.TERMS, "or has more than 3 digits");
        Boundary.due("three", 5, read("need 005", 1, RICH).status(4));
        Boundary.fault("need 0005", 5, RICH);
        Boundary.fault("bell 0600", 5, RICH);
        Boundary.fault("bell 1000", 5, RICH);
        Boundary.due("three of a sheet", 2, read("sheet 000 001 002", 1, RICH).sheetOf(0, NONE));
        Boundary.fault("sheet 0000 1", 6, RICH);
        Boundary.fault("sheet 0 0001", 8, RICH);
        Boundary.fault("need 4294967297", 5, RICH);
        Boundary.fault("letter 4294967296", 7, RICH);
        Boundary.fault("letter " + times("0", 243), 7, NEW);
    }

    private static void sheets() {
        Boundary.at(Boundary.TERMS, "sheet P, and 0 to 5 W (a SHEET, as sheet() has it)");
        Boundary.due("none", 0, read("sheet 0", 1, RICH).sheetOf(0, NONE));
        Boundary.due("none, and more", 0, read("sheet 2;need 1", 2, RICH).sheetOf(2, NONE));
        TownRiverBeast x = read("sheet 0 5 3 2 1 0", 1, RICH);
        int[] wants = {5, 3, 2, 1, 0};
        Boundary.due("five", 5, x.sheetOf(0, NONE));
        for (int i = 0; i < 5; i++) {
            Boundary.due("in their order", wants[i], x.sheetOf(0, i));
        }
        Boundary.due("another's stays", 3, x.sheetOf(1, NONE));
        Boundary.due("one", 1, read("sheet 0 5", 1, RICH).sheetOf(0, NONE));
        Boundary.due("what is ahead counts", 1, read("knows 1 5;sheet 1 5", 2, RICH).sheetOf(1, NONE));
        Boundary.fault("sheet 3", 6, RICH);
        Boundary.fault("sheet 0", 6, NEW);
        Boundary.at(Boundary.TERMS, "a sixth W");
        Boundary.fault("sheet 0 0 1 2 3 5 6", 18, RICH);
        Boundary.fault("sheet 0 0 1 2 3 5 6 7", 18, RICH);
        Boundary.fault("sheet 0 0 1 2 3 5 x", 18, RICH);
        Boundary.at(Boundary.TERMS, "a W that can't be on the SHEET behind those ahead of it: W");
        Boundary.fault("sheet 0 7", 8, RICH);
        Boundary.fault("sheet 0 999", 8, RICH);
        Boundary.fault("sheet 0 0 0", 10, RICH);
        Boundary.fault("sheet 0 0 1 2 3 3", 16, RICH);
        Boundary.fault("sheet 1 5", 8, RICH);
        Boundary.fault("sheet 1 0 5 9", 10, RICH);
        Boundary.fault("sheet 2 6", 8, RICH);
        Boundary.due("of the letter then", 6, read("letter 1;sheet 2 6", 2, RICH).sheetOf(2, 0));
        Boundary.due("of the letter before", 4, read("sheet 2 4;letter 1", 2, RICH).sheetOf(2, 0));
        Boundary.fault("letter 1;sheet 2 4", 17, RICH);
        Boundary.fault("knows 0 4;sheet 0 0 4", 20, RICH);
        Supplier<TownRiverBeast> barred = () -> {
            TownRiverBeast y = Worlds.richButTape();
            y.ask(7, 1);
            return y;
        };
        Boundary.fault("sheet 0 3", 8, barred);
        Boundary.due("not used", 2, read("sheet 0 2", 1, barred).sheetOf(0, 0));
        Boundary.due("not barred", 3, read("sheet 0 3", 1, RICH).sheetOf(0, 0));
    }

    private static void room() {
        Boundary.at(Boundary.TERMS, "what there is no room for: its word");
        read("person", 1, RICH);
        Boundary.fault("person;person", 7, RICH);
        Boundary.fault("person; person 1", 8, RICH);
        Boundary.fault("person", 0, () -> Worlds.people(4));
        Boundary.fault("need 1;person;need 9", 7, () -> Worlds.people(4));
        Boundary.due("the 24th", 24, read("word 0 0 0 1 0", 1, () -> Worlds.words(23)).status(1));
        Boundary.fault("word 0 0 0 1 0;word 0 0 0 1 0", 15, () -> Worlds.words(23));
        Boundary.fault("word 0 0 0 1 0", 0, () -> Worlds.words(24));
        Boundary.fault("word 9", 0, () -> Worlds.words(24));
        Boundary.fault("word", 0, () -> Worlds.words(24));
        Boundary.fault("word 9", 5, () -> Worlds.words(23));
    }

    private static void strangeBytes() {
        Boundary.at(Boundary.TERMS, "a byte that begins none");
        for (String sign : new String[] {"-", "+", ",", ".", "A", "Z", "_", "\"", "\t", "\n", "\0", "\u00e9", "\u00ff", "@", "[", "`", "{", "/", ":", "<"}) {
            Boundary.fault(sign, 0, NEW);
            Boundary.fault("need 3;" + sign, 7, RICH);
            Boundary.fault("need " + sign + "3", 5, RICH);
            Boundary.fault("sheet 0 1" + sign, 9, RICH);
            Boundary.fault("person" + sign, 6, RICH);
        }
        Boundary.at(Boundary.TERMS, "the first TOKEN that can't stand there");
        Boundary.fault("need 6 ?", 5, RICH);
        Boundary.fault("need ? 6", 5, RICH);
        Boundary.fault("need 3;bell 0;need 9", 12, RICH);
        Boundary.fault("sheet 3 0", 6, RICH);
        Boundary.fault("word word", 5, RICH);
        Boundary.fault("word ;", 5, RICH);
        Boundary.fault("person need 3", 7, RICH);
    }

    private static void tooEarly() {
        Boundary.at(Boundary.TERMS, "THE TAPE's size, if it ends too early");
        for (String text : new String[] {"", " ", "need", "need ", "need 3;", "need 3;  ", "letter", "bell", "points", "points 1",
            "points 1 2", "points 1 2 ", "word", "word 0", "word 0 0", "word 0 0 0", "word 0 0 0 1", "word 0 0 0 1 ", "knows",
            "knows 0", "knows 0 ", "sheet", "sheet ", "person;", "person ; "}) {
            Boundary.fault(text, text.length(), RICH);
        }
        Boundary.fault("columns ", 8, NEW);
        Boundary.fault(times(" ", 250), 250, NEW);
        Boundary.fault(times(" ", 249), 249, NEW);
        Boundary.fault("person" + times(" ", 243) + ";", 250, NEW);
        Boundary.fault("need" + times(" ", 246), 250, NEW);
    }

    private static void allOrNothing() {
        Boundary.at(Boundary.TERMS, "All comes to what there is, or nothing.");
        String all = "word 1 2 3 4 5;person;knows 3 0;letter 2;need 2;bell 9;points 1 2 3;sheet 0";
        TownRiverBeast x = read(all, 8, RICH);
        int[] wants = {5, 8, 4, 2, 2, 9, 1, 2, 3, 0, 0};
        for (int k = 0; k < wants.length; k++) {
            Boundary.due("status " + k, wants[k], x.status(k));
        }
        Boundary.due("knows", 11, x.wordOf(0, 5));
        Boundary.due("used stays", 1, x.wordOf(3, 6));
        Boundary.due("score stays", 20, x.score(1));
        Boundary.due("sheet", 0, x.sheetOf(0, NONE));
        Boundary.due("another sheet stays", 3, x.sheetOf(1, NONE));
        Boundary.due("seed stays", 77, x.status(17));
        Boundary.due("shelves stay", 11, x.holds(2));
        Boundary.fault(all + ";", all.length() + 1, RICH);
        Boundary.fault(all + ";need 0", all.length() + 6, RICH);
        Boundary.fault(all + " 0", all.length() + 1, RICH);
        Boundary.fault("columns 2;" + "person;letter 2;need 6", 31, NEW);
    }

    public static void main(String[] args) {
        answers();
        tokens();
        statements();
        columns();
        numbers();
        digits();
        sheets();
        room();
        strangeBytes();
        tooEarly();
        allOrNothing();
        Boundary.covers(17, 17);
        Check.end();
    }
}
