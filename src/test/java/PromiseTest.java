/** One method for each promise: ordinary inputs, the edges, and each refusal in its order. */
public final class PromiseTest {
    private static final int BAD = -2;
    private static final int OTHER = -3;
    private static final int NOTHING = -4;
    private static final int STUCK = -5;
    private static final int FULL = -6;
    private static final int NONE = TownRiverBeast.NONE;
    private static final int LOW = Integer.MIN_VALUE;
    private static final int HIGH = Integer.MAX_VALUE;

    private static void due(String what, long want, long got) {
        Check.due(what, want, got);
    }

    /** Seven words, three people; 0 and 1 know nearly all, 2 knows an invented word. */
    private static TownRiverBeast game() {
        TownRiverBeast x = new TownRiverBeast();
        x.word(0, 0, 0, 10, 0);
        x.word(1, 0, 1, 9, 0);
        x.word(2, 0, 2, 10, 3);
        x.word(3, 0, 3, 1, 0);
        x.word(4, 0, 0, 20, 0);
        x.word(5, 0, 1, 10, 2);
        x.word(0, 1, 0, 5, 0);
        for (int p = 0; p < 3; p++) {
            x.person();
        }
        for (int w = 0; w < 4; w++) {
            x.knows(0, w, true);
            x.knows(1, w, true);
        }
        x.knows(2, 4, true);
        return x;
    }

    /** The same with sheets: 0 writes four words, 1 three of these, 2 the invented one. */
    private static TownRiverBeast written() {
        TownRiverBeast x = game();
        Check.sheet(x, 0, 0, 1, 2, 3);
        Check.sheet(x, 1, 0, 1, 2);
        Check.sheet(x, 2, 4);
        return x;
    }

    private static void refusals(String what, TownRiverBeast x, int bad, int other, int nothing, int stuck, int full) {
        due(what + " BAD", bad, x.status(12));
        due(what + " OTHER", other, x.status(13));
        due(what + " NOTHING", nothing, x.status(14));
        due(what + " STUCK", stuck, x.status(15));
        due(what + " FULL", full, x.status(16));
    }

    private static void promise1() {
        TownRiverBeast x = new TownRiverBeast();
        int[] first = {4, 0, 0, 0, 4, 180, 20, 10, 5, 0, 0, 0, 0, 0, 0, 0, 0, 1, 0, 0};
        for (int k = 0; k < first.length; k++) {
            due("1 status " + k, first[k], x.status(k));
        }
        for (int s = 0; s < 8; s++) {
            due("1 holds", NONE, x.holds(s));
        }
        due("1 tape", 0, x.wipe());
        due("1 NONE", -1, NONE);
    }

    private static void promise2() {
        TownRiverBeast x = new TownRiverBeast();
        due("2", 1, x.row(0, 0, 0));
        due("2", 1, x.row(7, 4, 40));
        due("2 holds", 4, x.holds(7));
        due("2 set", 1, x.set(7, 39, 5));
        due("2 new", 1, x.row(7, 3, 40));
        due("2 first", 0, x.element(7, 39));
        x.set(7, 0, 8);
        x.row(7, 3, 40);
        due("2 first", 0, x.element(7, 0));
        due("2 shelf", BAD, x.row(8, 0, 0));
        due("2 shelf", BAD, x.row(-1, 0, 0));
        due("2 sort", BAD, x.row(0, 5, 0));
        due("2 sort", BAD, x.row(0, -1, 0));
        due("2 n", BAD, x.row(0, 0, 41));
        due("2 n", BAD, x.row(0, 0, -1));
        due("2 extremes", BAD, x.row(LOW, HIGH, LOW));
        due("2 kept", 3, x.holds(7));
        refusals("2", x, 7, 0, 0, 0, 0);
    }

    private static void promise3() {
        TownRiverBeast x = game();
        long v = 0x1234567890ABCDEFL;
        long[] wants = {(byte) v, (short) v, (int) v, v, 1};
        for (int sort = 0; sort < 5; sort++) {
            x.row(sort, sort, 2);
            due("3", 1, x.set(sort, 1, v));
            due("3 lowest bits " + sort, wants[sort], x.element(sort, 1));
            due("3 another", 0, x.element(sort, 0));
        }
        due("3 boolean", 1, x.set(4, 0, 256));
        due("3 boolean", 1, x.element(4, 0));
        due("3 boolean", 1, x.set(4, 0, 0));
        due("3 boolean", 0, x.element(4, 0));
        due("3 boolean", 1, x.set(4, 0, 1));
        due("3 boolean", 1, x.element(4, 0));
        due("3 byte", 1, x.set(0, 0, 256));
        due("3 byte", 0, x.element(0, 0));
        due("3 byte", 1, x.set(0, 0, 200));
        due("3 byte", -56, x.element(0, 0));
        x.show(5, 0);
        due("3 BAD shelf", BAD, x.set(8, 0, 0));
        due("3 BAD shelf", BAD, x.set(-1, 0, 0));
        due("3 OTHER", OTHER, x.set(5, 99, 0));
        due("3 NOTHING", NOTHING, x.set(6, 99, 0));
        due("3 BAD i", BAD, x.set(0, 2, 0));
        due("3 BAD i", BAD, x.set(0, -1, 0));
        refusals("3", x, 4, 1, 1, 0, 0);
    }

    private static void promise4() {
        TownRiverBeast x = game();
        Check.row(x, 0, 1, 2, 3, 4, 5);
        Check.row(x, 1, 0, 0, 0);
        due("4", 2, x.copy(0, 1, 3, 1, 2));
        due("4 to", 0, x.element(1, 0));
        due("4 to", 4, x.element(1, 1));
        due("4 to", 5, x.element(1, 2));
        due("4 forth", 4, x.copy(0, 0, 0, 1, 4));
        for (int i = 1; i < 5; i++) {
            due("4 as they were", i, x.element(0, i));
        }
        due("4 back", 4, x.copy(0, 0, 1, 0, 4));
        due("4 as they were", 4, x.element(0, 3));
        due("4 as they were", 4, x.element(0, 4));
        due("4 none", 0, x.copy(0, 1, 5, 3, 0));
        x.row(2, 3, 5);
        x.show(3, 0);
        due("4 BAD p", BAD, x.copy(8, 1, 0, 0, 0));
        due("4 BAD q", BAD, x.copy(3, -1, 0, 0, 0));
        due("4 OTHER word", OTHER, x.copy(3, 1, 0, 0, 0));
        due("4 OTHER word", OTHER, x.copy(1, 3, 0, 0, 0));
        due("4 OTHER ahead of NOTHING", OTHER, x.copy(4, 3, 0, 0, 0));
        due("4 OTHER sorts", OTHER, x.copy(0, 2, 99, 0, 0));
        due("4 NOTHING", NOTHING, x.copy(4, 0, 99, 0, 0));
        due("4 NOTHING", NOTHING, x.copy(0, 4, 99, 0, 0));
        due("4 NOTHING", NOTHING, x.copy(4, 4, 0, 0, 0));
        due("4 BAD i", BAD, x.copy(0, 1, -1, 0, 1));
        due("4 BAD j", BAD, x.copy(0, 1, 0, -1, 1));
        due("4 BAD n", BAD, x.copy(0, 1, 0, 0, -1));
        due("4 BAD from", BAD, x.copy(0, 1, 4, 0, 2));
        due("4 BAD to", BAD, x.copy(0, 1, 0, 2, 2));
        due("4 BAD extremes", BAD, x.copy(0, 1, HIGH, HIGH, HIGH));
        due("4 BAD extremes", BAD, x.copy(0, 1, 1, 1, HIGH));
        due("4 BAD extremes", BAD, x.copy(0, 1, LOW, LOW, LOW));
        refusals("4", x, 10, 4, 3, 0, 0);
    }

    private static void promise5() {
        TownRiverBeast x = game();
        Check.row(x, 0, 7);
        x.show(1, 2);
        due("5", 7, x.element(0, 0));
        due("5 none", 0, x.element(0, 1));
        due("5 none", 0, x.element(0, -1));
        due("5 word", 0, x.element(1, 0));
        due("5 nothing", 0, x.element(2, 0));
        due("5 no shelf", 0, x.element(8, 0));
        due("5 no shelf", 0, x.element(LOW, HIGH));
        refusals("5", x, 0, 0, 0, 0, 0);
    }

    private static void promise6() {
        TownRiverBeast x = game();
        for (int sort = 0; sort < 5; sort++) {
            x.row(sort, sort, 0);
            due("6 row", sort, x.holds(sort));
        }
        x.show(5, 0);
        x.show(6, 6);
        due("6 word", 10, x.holds(5));
        due("6 word", 16, x.holds(6));
        due("6 nothing", NONE, x.holds(7));
        due("6 no shelf", NONE, x.holds(8));
        due("6 no shelf", NONE, x.holds(-1));
        refusals("6", x, 0, 0, 0, 0, 0);
    }

    private static void promise7() {
        TownRiverBeast x = game();
        due("7", 1, x.show(0, 6));
        due("7", 16, x.holds(0));
        due("7 nothing", 1, x.show(0, NONE));
        due("7 nothing", NONE, x.holds(0));
        Check.row(x, 0, 1);
        due("7 over a row", 1, x.show(0, 1));
        due("7 over a row", 11, x.holds(0));
        due("7 no element", 0, x.element(0, 0));
        due("7 BAD shelf", BAD, x.show(8, 0));
        due("7 BAD shelf", BAD, x.show(-1, NONE));
        due("7 BAD word", BAD, x.show(0, 7));
        due("7 BAD word", BAD, x.show(0, -2));
        due("7 stays", 11, x.holds(0));
        refusals("7", x, 4, 0, 0, 0, 0);
    }

    private static void promise8() {
        TownRiverBeast x = written();
        int[] takes = {10, 4, 13, 1, 20, 17, 5};
        for (int w = 0; w < 7; w++) {
            x.show(0, w);
            due("8 WORD " + w, takes[w], x.says(0, 0));
        }
        x.show(0, 1);
        due("8 COMMON", 2, x.says(0, 1));
        x.show(0, 3);
        due("8 AVOIDED as COMMON", 1, x.says(0, 1));
        due("8 AVOIDED", 1, x.says(0, 3));
        Check.sheet(x, 1, 3);
        due("8 AVOIDED on two", 0, x.says(0, 3));
        Check.sheet(x, 1);
        Check.sheet(x, 0);
        due("8 AVOIDED on none", 0, x.says(0, 3));
        x.show(0, 2);
        due("8 RARE", 2, x.says(0, 2));
        x.show(0, 5);
        due("8 LONG as RARE", 0, x.says(0, 2));
        due("8 LONG", 2, x.says(0, 5));
        x.show(0, 4);
        due("8 INVENTED", 1, x.says(0, 4));
        x.knows(2, 4, false);
        due("8 INVENTED", 2, x.says(0, 4));
        x.person();
        due("8 INVENTED of four", 2, x.says(0, 4));
        for (int p = 0; p < 3; p++) {
            x.knows(p, 4, true);
        }
        due("8 INVENTED enough", 0, x.says(0, 4));
        Check.row(x, 1, 0);
        due("8 BAD shelf", BAD, x.says(8, 0));
        due("8 BAD kind", BAD, x.says(0, 6));
        due("8 BAD kind ahead", BAD, x.says(1, -1));
        due("8 OTHER row", OTHER, x.says(1, 0));
        due("8 OTHER kind", OTHER, x.says(0, 1));
        due("8 NOTHING", NOTHING, x.says(2, 1));
        x.show(0, 1);
        due("8 OTHER: under, not above", OTHER, x.says(0, 3));
        x.show(0, 5);
        due("8 OTHER: LONG as COMMON", OTHER, x.says(0, 1));
        x.show(0, 0);
        due("8 OTHER: a plain WORD", OTHER, x.says(0, 4));
        refusals("8", x, 3, 5, 1, 0, 0);
    }

    private static void promise9() {
        TownRiverBeast x = new TownRiverBeast();
        due("9", 4, x.columns(5));
        due("9", 5, x.columns(1));
        due("9 now", 1, x.status(0));
        due("9 BAD", BAD, x.columns(0));
        due("9 BAD", BAD, x.columns(6));
        due("9 word", BAD, x.word(0, 0, 1, 1, 0));
        due("9 word", 0, x.word(0, 0, 0, 1, 0));
        due("9 BAD ahead of STUCK", BAD, x.columns(0));
        due("9 STUCK", STUCK, x.columns(1));
        due("9 now", 1, x.status(0));
        refusals("9", x, 4, 0, 0, 1, 0);
    }

    private static void promise10() {
        TownRiverBeast x = new TownRiverBeast();
        due("10", 0, x.word(5, 25, 3, 60, 9));
        due("10", 1, x.word(0, 0, 0, 1, 0));
        int[][] wrong = {{-1, 0, 0, 1, 0}, {6, 0, 0, 1, 0}, {0, -1, 0, 1, 0}, {0, 26, 0, 1, 0}, {0, 0, -1, 1, 0},
            {0, 0, 4, 1, 0}, {0, 0, 0, 0, 0}, {0, 0, 0, 61, 0}, {0, 0, 0, 1, -1}, {0, 0, 0, 1, 10}};
        for (int[] r : wrong) {
            due("10 BAD", BAD, x.word(r[0], r[1], r[2], r[3], r[4]));
        }
        for (int w = 2; w < 24; w++) {
            due("10", w, x.word(0, 0, 0, 1, 0));
        }
        due("10 FULL", FULL, x.word(0, 0, 0, 1, 0));
        due("10 BAD ahead", BAD, x.word(0, 0, 0, 0, 0));
        due("10 count", 24, x.status(1));
        due("10 kind", 5, x.wordOf(0, 0));
        due("10 knows", 0, x.wordOf(0, 5));
        due("10 used", 0, x.wordOf(0, 6));
        refusals("10", x, 11, 0, 0, 0, 1);
    }

    private static void promise11() {
        TownRiverBeast x = new TownRiverBeast();
        for (int p = 0; p < 4; p++) {
            due("11", p, x.person());
            due("11 sheet", 0, x.sheetOf(p, NONE));
            due("11 score", 0, x.score(p));
        }
        due("11 FULL", FULL, x.person());
        due("11 count", 4, x.status(2));
        refusals("11", x, 0, 0, 0, 0, 1);
    }

    private static void promise12() {
        TownRiverBeast x = game();
        due("12", 1, x.knows(2, 0, true));
        due("12 so", 0, x.knows(2, 0, true));
        due("12 bits", 7, x.wordOf(0, 5));
        due("12 not", 1, x.knows(0, 0, false));
        due("12 not so", 0, x.knows(0, 0, false));
        due("12 bits", 6, x.wordOf(0, 5));
        due("12 BAD", BAD, x.knows(3, 0, true));
        due("12 BAD", BAD, x.knows(-1, 0, true));
        due("12 BAD", BAD, x.knows(0, 7, true));
        due("12 BAD", BAD, x.knows(0, -1, false));
        refusals("12", x, 4, 0, 0, 0, 0);
    }

    private static void promise13() {
        TownRiverBeast x = new TownRiverBeast();
        int[] first = {0, 4, 180, 20, 10, 5, 0, 0};
        int[] least = {0, 1, 1, 0, 0, 0, 0, 0};
        int[] most = {25, 5, 600, 50, 50, 50, 1, 1};
        for (int what = 0; what < 8; what++) {
            due("13 first " + what, first[what], x.ask(what, most[what]));
            due("13 most " + what, most[what], x.ask(what, least[what]));
            due("13 BAD " + what, BAD, x.ask(what, most[what] + 1));
            due("13 BAD " + what, BAD, x.ask(what, least[what] - 1));
            due("13 now " + what, least[what], x.status(3 + what));
        }
        due("13 BAD", BAD, x.ask(8, 0));
        due("13 BAD", BAD, x.ask(-1, 0));
        refusals("13", x, 18, 0, 0, 0, 0);
    }

    private static void promise14() {
        TownRiverBeast x = game();
        Check.row(x, 0, 2, 0, 1, 3, 9, 9);
        due("14", 4, x.sheet(0, 4, 0));
        due("14 first", 2, x.sheetOf(0, 0));
        due("14 last", 3, x.sheetOf(0, 3));
        due("14 none", 0, x.sheet(0, 0, 0));
        due("14 none", 0, x.sheetOf(0, NONE));
        x.row(1, 3, 1);
        x.set(1, 0, 1L << 32);
        due("14 no such WORD", STUCK, x.sheet(1, 1, 0));
        x.row(1, 4, 1);
        x.set(1, 0, 77);
        due("14 boolean", 1, x.sheet(1, 1, 0));
        due("14 boolean", 1, x.sheetOf(0, 0));
        x.show(2, 0);
        due("14 BAD shelf", BAD, x.sheet(8, 0, 0));
        due("14 BAD n", BAD, x.sheet(2, 6, 0));
        due("14 BAD n", BAD, x.sheet(2, -1, 0));
        due("14 BAD person", BAD, x.sheet(2, 0, 3));
        due("14 OTHER", OTHER, x.sheet(2, 1, 0));
        due("14 NOTHING", NOTHING, x.sheet(3, 1, 0));
        due("14 BAD fewer", BAD, x.sheet(1, 2, 0));
        due("14 STUCK no word", STUCK, x.sheet(0, 5, 0));
        Check.row(x, 0, 0, 0);
        due("14 STUCK twice", STUCK, x.sheet(0, 2, 0));
        due("14 STUCK unknown", STUCK, x.sheet(0, 1, 2));
        x.knows(0, 4, true);
        Check.row(x, 0, 0, 4);
        due("14 STUCK column", STUCK, x.sheet(0, 2, 0));
        x.knows(0, 6, true);
        Check.row(x, 0, 6);
        due("14 STUCK letter", STUCK, x.sheet(0, 1, 0));
        x.ask(0, 1);
        due("14 letter", 1, x.sheet(0, 1, 0));
        x.round();
        due("14 used, not barred", 1, x.sheet(0, 1, 0));
        x.ask(7, 1);
        due("14 STUCK barred", STUCK, x.sheet(0, 1, 0));
        refusals("14", x, 5, 1, 1, 7, 0);
    }

    private static void promise15() {
        TownRiverBeast x = new TownRiverBeast();
        due("15", 1, x.feed(0));
        due("15", 2, x.feed(255));
        due("15 BAD", BAD, x.feed(-1));
        due("15 BAD", BAD, x.feed(256));
        for (int k = 3; k <= 250; k++) {
            due("15", k, x.feed(32));
        }
        due("15 FULL", FULL, x.feed(32));
        due("15 BAD ahead", BAD, x.feed(256));
        due("15 size", 250, x.status(11));
        refusals("15", x, 3, 0, 0, 0, 1);
    }

    private static void promise16() {
        TownRiverBeast x = new TownRiverBeast();
        due("16", 0, x.wipe());
        Check.feed(x, "person");
        due("16", 6, x.wipe());
        due("16 size", 0, x.status(11));
        due("16 empty", -20, x.evening());
    }

    private static void fault(String text, int place) {
        TownRiverBeast x = new TownRiverBeast();
        Check.evening(x, "word 0 0 0 1 0; person; knows 0 0; word 4 1 1 2 3");
        due("17 fault of '" + text + "'", -20 - place, Check.evening(x, text));
        due("17 nothing of '" + text + "'", 2, x.status(1));
        due("17 nothing of '" + text + "'", 1, x.status(2));
        due("17 nothing of '" + text + "'", 0, x.status(3));
        due("17 nothing of '" + text + "'", 4, x.status(4));
        due("17 nothing of '" + text + "'", 180, x.status(5));
        due("17 nothing of '" + text + "'", 20, x.status(6));
        due("17 nothing of '" + text + "'", 0, x.wordOf(1, 5));
        due("17 nothing of '" + text + "'", 0, x.sheetOf(0, NONE));
        due("17 tape", 0, x.status(11));
        refusals("17", x, 1, 0, 0, 0, 0);
    }

    private static void promise17() {
        TownRiverBeast x = new TownRiverBeast();
        due("17", 12, Check.evening(x, "columns5;word 1 2 4 60 9;word 3 002 0 1 0 ;  person;person; knows 1 0;knows 1 1;"
            + "letter 2; need 2;bell 600;points 50 0 7;sheet 1 1 0"));
        int[] wants = {5, 2, 2, 2, 2, 600, 50, 0, 7, 0, 0, 0};
        for (int k = 0; k < wants.length; k++) {
            due("17 status " + k, wants[k], x.status(k));
        }
        due("17 word", 1, x.wordOf(0, 0));
        due("17 word", 2, x.wordOf(0, 1));
        due("17 word", 4, x.wordOf(0, 2));
        due("17 word", 60, x.wordOf(0, 3));
        due("17 word", 9, x.wordOf(0, 4));
        due("17 knows", 2, x.wordOf(0, 5));
        due("17 sheet", 2, x.sheetOf(1, NONE));
        due("17 sheet", 1, x.sheetOf(1, 0));
        due("17 sheet", 0, x.sheetOf(1, 1));
        due("17 sheet of none", 1, Check.evening(x, "sheet 1"));
        due("17 sheet of none", 0, x.sheetOf(1, NONE));
        due("17 sheet and more", 2, Check.evening(x, "sheet 1 0 ;need 5"));
        due("17 sheet and more", 1, x.sheetOf(1, NONE));
        due("17 the greatest", 1, Check.evening(new TownRiverBeast(), "word 5 25 3 60 9"));
        due("17 close together", 3, Check.evening(new TownRiverBeast(), "need3;bell600;person"));
        due("17 columns twice", 2, Check.evening(new TownRiverBeast(), "columns 1;columns 2"));
        refusals("17", x, 0, 0, 0, 0, 0);
        fault("", 0);
        fault("   ", 3);
        fault("need", 4);
        fault("need  ", 6);
        fault("need 3;", 7);
        fault("need 3; ", 8);
        fault("need 0", 5);
        fault("need 6", 5);
        fault("need 0004", 5);
        fault("need 3 4", 7);
        fault("need;", 4);
        fault("need 3;;", 7);
        fault(";need 3", 0);
        fault("need three", 5);
        fault("needs 3", 0);
        fault("nee", 0);
        fault("seed 3", 0);
        fault("needneed", 0);
        fault("need 3 bell 4", 7);
        fault("need 3,", 6);
        fault("Need 3", 0);
        fault("need 3;bell\t3", 11);
        fault("bell 0", 5);
        fault("bell 601", 5);
        fault("bell 1000", 5);
        fault("letter 26", 7);
        fault("points 1 51 1", 9);
        fault("points 1 1", 10);
        fault("points 1 1 51", 11);
        fault("points 1 1 1 1", 13);
        fault("columns 2", 0);
        fault("columns", 0);
        fault("need 1;columns 9", 7);
        fault("word 6 0 0 1 0", 5);
        fault("word 0 26 0 1 0", 7);
        fault("word 0 0 4 1 0", 9);
        fault("word 0 0 0 0 0", 11);
        fault("word 0 0 0 61 0", 11);
        fault("word 0 0 0 1 10", 13);
        fault("word 0 0 0 1", 12);
        fault("word 0 0 0 1 0 0", 15);
        fault("person 1", 7);
        fault("person;person;person;person;need 4", 21);
        fault("person;person;person;person", 21);
        fault("knows 1 0", 6);
        fault("knows 0 2", 8);
        fault("knows 0", 7);
        fault("knows 0 1;knows 1 1", 16);
        fault("sheet", 5);
        fault("sheet 1", 6);
        fault("sheet 0 1", 8);
        fault("sheet 0 0 0", 10);
        fault("sheet 0 0 x", 10);
        fault("sheet 0 0000", 8);
        fault("sheet 0 2", 8);
        fault("letter 1;sheet 0 0", 17);
        fault("need 1;knows 0 1;sheet 0 1", 25);
        sheetOfFive();
        roomForWords();
    }

    private static void sheetOfFive() {
        TownRiverBeast x = new TownRiverBeast();
        x.columns(5);
        for (int w = 0; w < 5; w++) {
            x.word(0, 0, w, 1, 0);
        }
        x.person();
        due("17 knows", 5, Check.evening(x, "knows 0 0;knows 0 1;knows 0 2;knows 0 3;knows 0 4"));
        due("17 five", 1, Check.evening(x, "sheet 0 4 3 2 1 0"));
        due("17 five", 5, x.sheetOf(0, NONE));
        due("17 six", -20 - 18, Check.evening(x, "sheet 0 0 1 2 3 4 0"));
        due("17 five stay", 4, x.sheetOf(0, 0));
    }

    private static void roomForWords() {
        TownRiverBeast x = new TownRiverBeast();
        for (int w = 0; w < 23; w++) {
            x.word(0, 0, 0, 1, 0);
        }
        due("17 no room", -20 - 15, Check.evening(x, "word 0 0 0 1 0;word 9"));
        due("17 nothing", 23, x.status(1));
        due("17 room", 1, Check.evening(x, "word 0 0 0 1 0"));
        due("17 full", -20, Check.evening(x, "word 0 0 0 1 0"));
        for (int k = 0; k < 250; k++) {
            x.feed(k == 249 ? ';' : ' ');
        }
        due("17 whole tape", -20 - 249, x.evening());
        for (int k = 0; k < 250; k++) {
            x.feed(' ');
        }
        due("17 blank tape", -20 - 250, x.evening());
        refusals("17", x, 4, 0, 0, 0, 0);
    }

    private static void promise18() {
        TownRiverBeast x = written();
        int[] wants = {2, 0, 2, 10, 3, 3, 0, 13};
        for (int what = 0; what < 8; what++) {
            due("18 of 2: " + what, wants[what], x.wordOf(2, what));
        }
        x.round();
        due("18 used", 1, x.wordOf(2, 6));
        due("18 not used", 0, x.wordOf(5, 6));
        int[] takes = {10, 4, 13, 1, 20, 17, 5};
        for (int w = 0; w < 7; w++) {
            due("18 takes", takes[w], x.wordOf(w, 7));
        }
        due("18 BAD", BAD, x.wordOf(7, 0));
        due("18 BAD", BAD, x.wordOf(-1, 0));
        due("18 BAD", BAD, x.wordOf(0, 8));
        due("18 BAD", BAD, x.wordOf(0, -1));
        refusals("18", x, 4, 0, 0, 0, 0);
    }

    private static void promise19() {
        TownRiverBeast x = written();
        due("19", 4, x.sheetOf(0, NONE));
        due("19", 2, x.sheetOf(1, 2));
        x.ask(0, 9);
        due("19 as it was told", 2, x.sheetOf(1, 2));
        due("19 BAD", BAD, x.sheetOf(3, 0));
        due("19 BAD", BAD, x.sheetOf(-1, NONE));
        due("19 BAD", BAD, x.sheetOf(0, -2));
        due("19 STUCK", STUCK, x.sheetOf(1, 3));
        due("19 STUCK", STUCK, x.sheetOf(1, HIGH));
        refusals("19", x, 3, 0, 0, 2, 0);
    }

    private static void promise20() {
        TownRiverBeast x = written();
        due("20", 0, x.score(0));
        x.round();
        due("20", 35, x.score(0));
        due("20", 15, x.score(1));
        due("20", 10, x.score(2));
        due("20 BAD", BAD, x.score(3));
        due("20 BAD", BAD, x.score(-1));
        refusals("20", x, 2, 0, 0, 0, 0);
    }

    private static void promise21() {
        TownRiverBeast x = new TownRiverBeast();
        due("21 STUCK", STUCK, x.call());
        refusals("21", x, 0, 0, 0, 1, 0);
        x = written();
        due("21", 28, x.call());
        x.ask(2, 27);
        due("21 BELL", 27, x.call());
        x.ask(2, 28);
        due("21 at BELL", 28, x.call());
        x.ask(1, 5);
        due("21 nobody", 28, x.call());
        x.ask(1, 1);
        due("21 one", 10, x.call());
        x.knows(0, 0, false);
        due("21 another", 4, x.call());
        x.ask(0, 1);
        due("21 no such letter", 28, x.call());
    }

    private static void promise22() {
        TownRiverBeast x = new TownRiverBeast();
        due("22 nobody", NONE, x.caller());
        x = written();
        due("22", 0, x.caller());
        x.ask(2, 27);
        due("22 not by BELL", NONE, x.caller());
        x.ask(1, 3);
        due("22 two at once, at BELL", 0, x.caller());
        x.knows(0, 0, false);
        due("22 later", 0, x.caller());
        due("22 call", 18, x.call());
        x.knows(0, 1, false);
        due("22 other", 1, x.caller());
        refusals("22", x, 0, 0, 0, 0, 0);
    }

    private static void promise23() {
        TownRiverBeast x = written();
        int[] seconds = {0, 9, 10, 13, 14, 26, 27, 28, 600};
        int[] wants = {0, 0, 1, 1, 3, 3, 7, 15, 15};
        for (int k = 0; k < seconds.length; k++) {
            due("23 by " + seconds[k], wants[k], x.written(0, seconds[k]));
        }
        x.knows(0, 1, false);
        due("23 takes no time", 5, x.written(0, 23));
        x.ask(1, 1);
        due("23 whatever THE CALL", 13, x.written(0, 600));
        due("23 BAD", BAD, x.written(3, 0));
        due("23 BAD", BAD, x.written(0, 601));
        due("23 BAD", BAD, x.written(0, -1));
        refusals("23", x, 3, 0, 0, 0, 0);
    }

    private static void promise24() {
        TownRiverBeast x = written();
        due("24", 15, x.kept(0));
        due("24", 7, x.kept(1));
        due("24", 16, x.kept(2));
        x.ask(6, 1);
        due("24 voted down", 0, x.kept(2));
        x.knows(1, 4, true);
        due("24 half at least", 16, x.kept(2));
        x.person();
        due("24 just half", 16, x.kept(2));
        x.knows(1, 4, false);
        due("24 less than half", 0, x.kept(2));
        x.ask(6, 0);
        x.ask(1, 2);
        due("24 by THE CALL", 3, x.kept(1));
        due("24 by THE CALL", 0, x.kept(2));
        due("24 BAD", BAD, x.kept(4));
        due("24 BAD", BAD, x.kept(-1));
        refusals("24", x, 2, 0, 0, 0, 0);
    }

    private static void promise25() {
        TownRiverBeast x = written();
        due("25", 35, x.points(0, NONE));
        due("25 alike", 5, x.points(0, 0));
        due("25 alone", 20, x.points(0, 3));
        due("25", 15, x.points(1, NONE));
        due("25 own", 10, x.points(2, 0));
        due("25 nothing", 0, x.points(2, 1));
        x.ask(3, 50);
        x.ask(4, 49);
        x.ask(5, 48);
        due("25 alone", 50, x.points(0, 3));
        due("25 own", 49, x.points(2, 0));
        due("25 alike", 48, x.points(0, 0));
        x.ask(6, 1);
        x.knows(1, 0, false);
        due("25 voted down: alone", 50, x.points(0, 0));
        due("25 voted down: none", 0, x.points(2, 0));
        due("25 BAD", BAD, x.points(3, 0));
        due("25 BAD", BAD, x.points(0, 4));
        due("25 BAD", BAD, x.points(0, -2));
        refusals("25", x, 3, 0, 0, 0, 0);
    }

    private static void promise26() {
        TownRiverBeast x = new TownRiverBeast();
        due("26 STUCK", STUCK, x.winner());
        refusals("26", x, 0, 0, 0, 1, 0);
        x = written();
        due("26", 0, x.winner());
        x.ask(3, 0);
        due("26 of several the first", 0, x.winner());
        x.ask(4, 50);
        due("26", 2, x.winner());
        x.ask(0, 25);
        due("26 no points", 0, x.winner());
    }

    /** One person who knows four words that take 10, 4, 13, 1. */
    private static TownRiverBeast oneOf() {
        TownRiverBeast x = new TownRiverBeast();
        Check.evening(x, "word 0 0 0 10 0;word 1 0 1 9 0;word 2 0 2 10 3;word 3 0 3 1 0;person;"
            + "knows 0 0;knows 0 1;knows 0 2;knows 0 3");
        return x;
    }

    private static void promise27() {
        TownRiverBeast x = oneOf();
        due("27 all", 80, x.best(0, 0));
        due("27 all", 15, x.best(0, 1));
        due("27 all", 28, x.best(0, 2));
        x.ask(2, 14);
        due("27 by BELL", 40, x.best(0, 0));
        due("27 of several the least bits", 3, x.best(0, 1));
        due("27 by BELL", 14, x.best(0, 2));
        x.ask(2, 180);
        x.ask(1, 2);
        due("27 need", 40, x.best(0, 0));
        due("27 need", 3, x.best(0, 1));
        due("27 need", 14, x.best(0, 2));
        x.ask(3, 0);
        due("27 nothing to gain", 0, x.best(0, 1));
        due("27 nothing to gain", 180, x.best(0, 2));
        x = written();
        due("27 against others", 20, x.best(1, 0));
        due("27 against others", 15, x.best(1, 1));
        x.ask(1, 2);
        due("27 ahead of others", 40, x.best(1, 0));
        due("27 ahead of others", 10, x.best(1, 1));
        due("27 ahead of others", 5, x.best(1, 2));
        due("27 BAD", BAD, x.best(3, 0));
        due("27 BAD", BAD, x.best(0, 3));
        due("27 BAD", BAD, x.best(0, -1));
        due("27 BAD", BAD, x.best(-1, 0));
        refusals("27", x, 4, 0, 0, 0, 0);
    }

    private static void promise28() {
        TownRiverBeast x = oneOf();
        Check.sheet(x, 0, 2, 0, 1);
        due("28", 60, x.order(0, NONE));
        due("28 first of several", 0, x.order(0, 0));
        x.ask(2, 4);
        due("28", 20, x.order(0, NONE));
        due("28", 1, x.order(0, 0));
        due("28", 0, x.order(0, 1));
        due("28", 2, x.order(0, 2));
        due("28 in thought", 2, x.sheetOf(0, 0));
        due("28 STUCK", STUCK, x.order(0, 3));
        due("28 STUCK", STUCK, x.order(0, HIGH));
        due("28 BAD", BAD, x.order(0, -2));
        due("28 BAD", BAD, x.order(1, NONE));
        due("28 BAD ahead", BAD, x.order(1, 9));
        x.ask(0, 3);
        due("28 none counts", 0, x.order(0, NONE));
        due("28 none counts", 0, x.order(0, 0));
        refusals("28", x, 3, 0, 0, 2, 0);
    }

    private static void promise29() {
        TownRiverBeast x = written();
        due("29", 3, x.swap(0, 0, 3));
        due("29", 3, x.sheetOf(0, 0));
        due("29", 0, x.sheetOf(0, 3));
        due("29 itself", 1, x.swap(0, 1, 1));
        due("29 BAD", BAD, x.swap(3, 0, 0));
        due("29 BAD", BAD, x.swap(1, 0, 3));
        due("29 BAD", BAD, x.swap(1, 3, 0));
        due("29 BAD", BAD, x.swap(1, -1, 0));
        due("29 BAD", BAD, x.swap(1, 0, -1));
        refusals("29", x, 5, 0, 0, 0, 0);
    }

    private static void promise30() {
        TownRiverBeast x = written();
        due("30 the one there", 0, x.bestWord(0, 0));
        x.knows(0, 4, true);
        due("30 of several the first", 0, x.bestWord(0, 0));
        x.knows(1, 4, true);
        x.ask(5, 0);
        Check.sheet(x, 2);
        due("30 own", 4, x.bestWord(0, 0));
        due("30 none known", NONE, x.bestWord(2, 3));
        due("30 behind all", 4, x.bestWord(2, 0));
        x.ask(2, 19);
        due("30 too late, the first", 4, x.bestWord(2, 0));
        due("30 in thought", 0, x.sheetOf(2, NONE));
        due("30 BAD", BAD, x.bestWord(3, 0));
        due("30 BAD", BAD, x.bestWord(0, 4));
        due("30 BAD", BAD, x.bestWord(0, NONE));
        refusals("30", x, 3, 0, 0, 0, 0);
        bestWordInPlace();
    }

    private static void bestWordInPlace() {
        TownRiverBeast x = oneOf();
        Check.evening(x, "word 0 0 0 5 0;knows 0 4;bell 9;need 5");
        Check.sheet(x, 0, 0, 1);
        due("30 in its place", 4, x.bestWord(0, 0));
        Check.sheet(x, 0, 1, 0);
        due("30 in its place", 4, x.bestWord(0, 0));
        x.ask(2, 8);
        due("30 too late there", 0, x.bestWord(0, 0));
        Check.sheet(x, 0, 0, 1);
        due("30 in time there", 4, x.bestWord(0, 0));
        Check.sheet(x, 0, 2);
        due("30 behind what is late", 0, x.bestWord(0, 0));
        x.knows(0, 2, false);
        due("30 what doesn't count takes no time", 4, x.bestWord(0, 0));
    }

    private static void promise31() {
        TownRiverBeast x = oneOf();
        due("31 none", NONE, x.learn(0, 0));
        due("31 none", 0, x.learn(0, 1));
        x.knows(0, 1, false);
        x.knows(0, 3, false);
        due("31 of several the first", 1, x.learn(0, 0));
        due("31 more", 20, x.learn(0, 1));
        x.ask(2, 12);
        due("31 in time", 3, x.learn(0, 0));
        due("31 in time", 20, x.learn(0, 1));
        x.ask(1, 1);
        due("31 not more: the first all the same", 1, x.learn(0, 0));
        due("31 not more", 0, x.learn(0, 1));
        x.ask(0, 4);
        due("31 letter", NONE, x.learn(0, 0));
        due("31 in thought", 0, x.wordOf(1, 5));
        due("31 BAD", BAD, x.learn(1, 0));
        due("31 BAD", BAD, x.learn(0, 2));
        due("31 BAD", BAD, x.learn(0, -1));
        refusals("31", x, 3, 0, 0, 0, 0);
        learnWithVote();
    }

    /** By knowing an invented word one lets another keep it. */
    private static void learnWithVote() {
        TownRiverBeast x = new TownRiverBeast();
        Check.evening(x, "word 4 0 0 9 0;word 0 0 0 9 0;person;person;person;knows 1 0;sheet 1 0;knows 0 1;bell 10");
        x.ask(6, 1);
        due("31 alone", 20, x.best(0, 0));
        due("31 voted in", 0, x.learn(0, 0));
        due("31 less is not more", 0, x.learn(0, 1));
        x.knows(0, 0, true);
        due("31 less", 10, x.best(0, 0));
    }

    private static void promise32() {
        TownRiverBeast x = game();
        due("32", 16, x.lonely(0));
        x.knows(1, 3, false);
        due("32", 24, x.lonely(0));
        due("32 nobody", 0, x.lonely(1));
        x.knows(2, 6, true);
        due("32 letter", 64, x.lonely(1));
        x.knows(1, 0, false);
        due("32 the first", 25, x.lonely(0));
        due("32 BAD", BAD, x.lonely(26));
        due("32 BAD", BAD, x.lonely(-1));
        refusals("32", x, 2, 0, 0, 0, 0);
    }

    private static void promise33() {
        TownRiverBeast x = written();
        due("33", 4, x.fills(0, 0));
        due("33", 1, x.fills(2, 0));
        due("33", 0, x.fills(0, 1));
        x.knows(0, 4, true);
        due("33 a column once", 4, x.fills(0, 0));
        x.round();
        due("33 used", 4, x.fills(0, 0));
        x.ask(7, 1);
        due("33 barred", 0, x.fills(0, 0));
        due("33 BAD", BAD, x.fills(3, 0));
        due("33 BAD", BAD, x.fills(0, 26));
        due("33 BAD", BAD, x.fills(0, -1));
        refusals("33", x, 3, 0, 0, 0, 0);
    }

    private static void promise34() {
        TownRiverBeast x = new TownRiverBeast();
        due("34 BAD ahead", BAD, x.gains(26));
        due("34 BAD", BAD, x.gains(-1));
        due("34 STUCK", STUCK, x.gains(0));
        refusals("34", x, 2, 0, 0, 1, 0);
        x = game();
        due("34 of several the first", 0, x.gains(0));
        due("34 of several the first", 0, x.gains(25));
        x.knows(2, 6, true);
        due("34", 2, x.gains(1));
        x.knows(1, 5, true);
        x.knows(0, 0, false);
        due("34", 1, x.gains(0));
    }

    private static void promise35() {
        TownRiverBeast x = new TownRiverBeast();
        due("35", 5, x.silent(5, 3, 0));
        due("35", 8, x.silent(5, 3, 1));
        due("35 around", 3, x.silent(25, 2, 2));
        due("35 slow", 1, x.silent(0, 1, 1));
        due("35 most", 25, x.silent(25, 26, 1000));
        due("35", 25, x.silent(25, 25, 26));
        due("35 BAD", BAD, x.silent(26, 1, 0));
        due("35 BAD", BAD, x.silent(-1, 1, 0));
        due("35 BAD", BAD, x.silent(0, 0, 0));
        due("35 BAD", BAD, x.silent(0, 27, 0));
        due("35 BAD", BAD, x.silent(0, 1, -1));
        due("35 BAD", BAD, x.silent(0, 1, 1001));
        refusals("35", x, 6, 0, 0, 0, 0);
    }

    private static void promise36() {
        TownRiverBeast x = game();
        due("36 not alone", NONE, x.stop(0, 1, 0));
        x.knows(2, 6, true);
        due("36", 1, x.stop(0, 1, 2));
        due("36", 0, x.stop(1, 26, 2));
        due("36 never", NONE, x.stop(0, 26, 2));
        due("36 last", 25, x.stop(2, 1, 2));
        due("36 by steps", 9, x.stop(0, 3, 2));
        due("36 never by steps", NONE, x.stop(0, 2, 2));
        x.knows(1, 0, false);
        due("36 alone", 0, x.stop(0, 1, 0));
        due("36 BAD", BAD, x.stop(26, 1, 0));
        due("36 BAD", BAD, x.stop(-1, 1, 0));
        due("36 BAD", BAD, x.stop(0, 0, 0));
        due("36 BAD", BAD, x.stop(0, 27, 0));
        due("36 BAD", BAD, x.stop(0, 1, 3));
        refusals("36", x, 5, 0, 0, 0, 0);
    }

    private static void promise37() {
        TownRiverBeast x = game();
        Check.row(x, 0, 3, 2, 1, 0, 4);
        due("37", NONE, x.judge(0, 4, 0));
        due("37 none told", NONE, x.judge(0, 0, 2));
        due("37 unknown", 4, x.judge(0, 5, 0));
        due("37 place", 0, x.judge(0, 1, 2));
        x.knows(0, 4, true);
        due("37 column", 4, x.judge(0, 5, 0));
        Check.row(x, 0, 0, -1);
        due("37 no word", 1, x.judge(0, 2, 0));
        Check.row(x, 0, 0, 1, 7);
        due("37 no word", 2, x.judge(0, 3, 0));
        Check.row(x, 0, 2, 2);
        due("37 twice", 1, x.judge(0, 2, 0));
        x.row(0, 3, 2);
        x.set(0, 1, (1L << 32) + 1);
        due("37 a long", 1, x.judge(0, 2, 0));
        x.show(1, 0);
        due("37 BAD shelf", BAD, x.judge(8, 0, 0));
        due("37 BAD n", BAD, x.judge(1, 6, 0));
        due("37 BAD person", BAD, x.judge(1, 1, 3));
        due("37 OTHER", OTHER, x.judge(1, 1, 0));
        due("37 NOTHING", NOTHING, x.judge(2, 1, 0));
        due("37 BAD fewer", BAD, x.judge(0, 3, 0));
        refusals("37", x, 4, 1, 1, 0, 0);
    }

    private static void promise38() {
        TownRiverBeast x = game();
        Check.row(x, 0, 3, 2, 1, 0, 4);
        due("38", 28, x.takes(0, 4, 0));
        due("38", 14, x.takes(0, 2, 0));
        due("38 none", 0, x.takes(0, 0, 2));
        x.show(1, 0);
        due("38 BAD shelf", BAD, x.takes(-1, 0, 0));
        due("38 BAD n", BAD, x.takes(1, 6, 0));
        due("38 BAD person", BAD, x.takes(1, 1, -1));
        due("38 OTHER", OTHER, x.takes(1, 1, 0));
        due("38 NOTHING", NOTHING, x.takes(2, 1, 0));
        x.row(3, 0, 1);
        due("38 BAD fewer", BAD, x.takes(3, 2, 0));
        due("38 STUCK", STUCK, x.takes(0, 5, 0));
        due("38 STUCK", STUCK, x.takes(0, 1, 2));
        refusals("38", x, 4, 1, 1, 2, 0);
    }

    private static void promise39() {
        TownRiverBeast x = written();
        due("39", 3, x.keptBy(0));
        due("39", 1, x.keptBy(3));
        due("39", 4, x.keptBy(4));
        due("39", 0, x.keptBy(5));
        x.ask(6, 1);
        due("39 voted down", 0, x.keptBy(4));
        due("39 BAD", BAD, x.keptBy(7));
        due("39 BAD", BAD, x.keptBy(-1));
        refusals("39", x, 2, 0, 0, 0, 0);
    }

    private static void promise40() {
        TownRiverBeast x = written();
        due("40", 1, x.rival(0));
        due("40", 0, x.rival(1));
        due("40", 0, x.rival(2));
        x.ask(0, 7);
        due("40 of several the first", 1, x.rival(0));
        due("40 BAD", BAD, x.rival(3));
        due("40 BAD", BAD, x.rival(-1));
        refusals("40", x, 2, 0, 0, 0, 0);
        x = oneOf();
        due("40 nobody else", NONE, x.rival(0));
        refusals("40", x, 0, 0, 0, 0, 0);
    }

    private static void promise41() {
        TownRiverBeast x = written();
        due("41", 4, x.needFor(0));
        due("41", 1, x.needFor(1));
        due("41", 1, x.needFor(2));
        due("41 in thought", 4, x.status(4));
        due("41 BAD", BAD, x.needFor(3));
        due("41 BAD", BAD, x.needFor(-1));
        refusals("41", x, 2, 0, 0, 0, 0);
        x = oneOf();
        due("41 empty sheet", 1, x.needFor(0));
        Check.sheet(x, 0, 0, 1, 2);
        due("41 nobody else", 3, x.needFor(0));
    }

    private static void promise42() {
        TownRiverBeast x = written();
        due("42", 0, x.late(0));
        due("42 not later", 0, x.late(1));
        x.ask(1, 1);
        due("42", 18, x.late(0));
        due("42", 17, x.late(1));
        due("42", 10, x.late(2));
        x.knows(0, 2, false);
        due("42 what counts of it", 5, x.late(0));
        due("42 BAD", BAD, x.late(3));
        due("42 BAD", BAD, x.late(-1));
        refusals("42", x, 2, 0, 0, 0, 0);
    }

    private static void promise43() {
        TownRiverBeast x = written();
        due("43", 3, x.clashes());
        Check.sheet(x, 1, 1);
        due("43 others in a column don't clash", 1, x.clashes());
        Check.sheet(x, 1);
        due("43", 0, x.clashes());
        due("43 nobody", 0, new TownRiverBeast().clashes());
    }

    private static void promise44() {
        TownRiverBeast x = written();
        due("44", 3, x.empty());
        Check.sheet(x, 1, 3);
        due("44 of several the first", 1, x.empty());
        x.ask(0, 5);
        due("44 all alike", 0, x.empty());
        due("44 nobody", 0, new TownRiverBeast().empty());
    }

    private static void promise45() {
        TownRiverBeast x = oneOf();
        due("45", 80, x.takeBest(0));
        int[] wants = {3, 1, 0, 2};
        for (int i = 0; i < 4; i++) {
            due("45 the least first", wants[i], x.sheetOf(0, i));
        }
        due("45 points", 80, x.points(0, NONE));
        x.ask(2, 14);
        due("45", 40, x.takeBest(0));
        due("45", 2, x.sheetOf(0, NONE));
        due("45", 1, x.sheetOf(0, 0));
        due("45", 0, x.sheetOf(0, 1));
        x.ask(0, 3);
        due("45 none", 0, x.takeBest(0));
        due("45 none", 0, x.sheetOf(0, NONE));
        due("45 BAD", BAD, x.takeBest(1));
        due("45 BAD", BAD, x.takeBest(-1));
        refusals("45", x, 2, 0, 0, 0, 0);
    }

    private static void promise46() {
        TownRiverBeast x = new TownRiverBeast();
        due("46 STUCK", STUCK, x.round());
        refusals("46", x, 0, 0, 0, 1, 0);
        x = written();
        x.ask(7, 1);
        due("46", 0, x.round());
        due("46 score", 35, x.score(0));
        due("46 score", 15, x.score(1));
        due("46 score", 10, x.score(2));
        due("46 used", 5, x.status(19));
        due("46 not used", 0, x.wordOf(5, 6));
        for (int p = 0; p < 3; p++) {
            due("46 empty", 0, x.sheetOf(p, NONE));
        }
        due("46 none", NONE, x.round());
        due("46 stays", 35, x.score(0));
        refusals("46", x, 0, 0, 0, 0, 0);
    }

    private static void promise47() {
        TownRiverBeast x = new TownRiverBeast();
        due("47 BAD", BAD, x.rounds(0));
        due("47 BAD", BAD, x.rounds(10));
        due("47 STUCK", STUCK, x.rounds(1));
        due("47 seed", 1, x.status(17));
        refusals("47", x, 2, 0, 0, 1, 0);
        x = game();
        int seed = 1;
        for (int k = 0; k < 9; k++) {
            seed = seed * 1103515245 + 12345;
        }
        due("47", 0, x.rounds(9));
        due("47 seed", seed, x.status(17));
        due("47 letter", (seed >>> 16) % 26, x.status(3));
        roundOfLetter();
    }

    /** With every letter's words alike the draw doesn't matter but for the letter. */
    private static void roundOfLetter() {
        TownRiverBeast x = new TownRiverBeast();
        int seed = 1103515245 + 12345;
        int letter = (seed >>> 16) % 26;
        x.word(0, letter, 0, 10, 0);
        x.word(0, letter, 0, 10, 0);
        x.person();
        x.person();
        x.knows(0, 0, true);
        x.knows(1, 0, true);
        x.knows(1, 1, true);
        due("47 who", 0, x.rounds(1));
        due("47 the first took 0", 10, x.score(0));
        due("47 the second took 1", 10, x.score(1));
        due("47 used", 2, x.status(19));
        due("47 letter", letter, x.status(3));
        due("47 empty", 0, x.sheetOf(1, NONE));
        x.seed(1);
        x.ask(7, 1);
        due("47 barred", 0, x.rounds(1));
        due("47 barred", 10, x.score(1));
        x.seed(1);
        x.ask(7, 0);
        x.ask(4, 0);
        x.knows(0, 0, false);
        due("47 the greatest", 1, x.rounds(1));
        due("47 the greatest", 30, x.score(1));
    }

    private static void promise48() {
        TownRiverBeast x = written();
        due("48 none", 0, x.again());
        due("48 sheets", 0, x.sheetOf(0, NONE));
        Check.sheet(x, 0, 0, 1, 2, 3);
        x.round();
        Check.sheet(x, 1, 0, 1, 2);
        due("48", 4, x.again());
        due("48 used", 0, x.status(19));
        due("48 score", 0, x.score(0));
        due("48 sheet", 0, x.sheetOf(1, NONE));
        due("48 knows", 3, x.wordOf(0, 5));
    }

    private static void promise49() {
        TownRiverBeast x = new TownRiverBeast();
        due("49", 1, x.seed(LOW));
        due("49", LOW, x.seed(-2));
        due("49", -2, x.seed(HIGH));
        due("49", HIGH, x.status(17));
        refusals("49", x, 0, 0, 0, 0, 0);
    }

    private static void promise50() {
        TownRiverBeast x = written();
        due("50", 1, x.image());
        Check.sheet(x, 0, 1);
        due("50 anew", 1, x.image());
        Check.sheet(x, 0);
        x.back();
        due("50 the last one", 1, x.sheetOf(0, NONE));
    }

    private static void promise51() {
        TownRiverBeast x = new TownRiverBeast();
        due("51 STUCK", STUCK, x.back());
        refusals("51", x, 0, 0, 0, 1, 0);
        x = written();
        x.image();
        x.word(0, 3, 3, 3, 3);
        x.show(0, 7);
        x.show(1, 2);
        Check.row(x, 2, 5);
        x.person();
        x.knows(0, 0, false);
        x.ask(2, 30);
        x.seed(99);
        x.swap(0, 0, 1);
        x.round();
        x.round();
        x.feed(65);
        x.wordOf(99, 0);
        due("51", 1, x.back());
        due("51 words", 7, x.status(1));
        due("51 people", 3, x.status(2));
        due("51 knows", 3, x.wordOf(0, 5));
        due("51 used", 0, x.status(19));
        due("51 bell", 180, x.status(5));
        due("51 seed", 1, x.status(17));
        due("51 score", 0, x.score(0));
        due("51 sheet", 0, x.sheetOf(0, 0));
        due("51 points", 35, x.points(0, NONE));
        due("51 shelf", NONE, x.holds(0));
        due("51 shelf", 12, x.holds(1));
        due("51 shelf", 5, x.element(2, 0));
        due("51 tape", 1, x.status(11));
        refusals("51", x, 1, 0, 0, 0, 0);
        x.round();
        due("51 once more", 1, x.back());
        due("51 once more", 4, x.sheetOf(0, NONE));
        due("51 a new person knows nothing", 3, x.person());
        x.back();
        x.word(0, 0, 0, 1, 0);
        x.knows(0, 7, true);
        x.back();
        Check.row(x, 3, 7);
        due("51 a word that is no more", 0, x.judge(3, 1, 0));
        due("51 a word that is no more", BAD, x.wordOf(7, 0));
        x.person();
        due("51 a new word is nobody's", 7, x.word(0, 0, 0, 1, 0));
        due("51 a new word is nobody's", 0, x.wordOf(7, 5));
    }

    private static void promise52() {
        TownRiverBeast x = written();
        x.columns(3);
        x.ask(0, 1);
        x.ask(1, 2);
        x.ask(2, 3);
        x.ask(3, 4);
        x.ask(4, 6);
        x.ask(5, 7);
        x.ask(6, 1);
        x.ask(7, 1);
        x.feed(1);
        x.seed(-7);
        x.show(0, 1);
        int[] wants = {4, 7, 3, 1, 2, 3, 4, 6, 7, 1, 1, 1, 0, 0, 0, 1, 0, -7, 2, 0};
        for (int k = 0; k < wants.length; k++) {
            due("52 status " + k, wants[k], x.status(k));
        }
        due("52 NONE", NONE, x.status(20));
        due("52 NONE", NONE, x.status(-1));
        due("52 NONE", NONE, x.status(HIGH));
        due("52 NONE", NONE, x.status(LOW));
        refusals("52", x, 0, 0, 0, 1, 0);
    }

    private static void promises1to26() {
        promise1();
        promise2();
        promise3();
        promise4();
        promise5();
        promise6();
        promise7();
        promise8();
        promise9();
        promise10();
        promise11();
        promise12();
        promise13();
        promise14();
        promise15();
        promise16();
        promise17();
        promise18();
        promise19();
        promise20();
        promise21();
        promise22();
        promise23();
        promise24();
        promise25();
        promise26();
    }

    private static void promises27to52() {
        promise27();
        promise28();
        promise29();
        promise30();
        promise31();
        promise32();
        promise33();
        promise34();
        promise35();
        promise36();
        promise37();
        promise38();
        promise39();
        promise40();
        promise41();
        promise42();
        promise43();
        promise44();
        promise45();
        promise46();
        promise47();
        promise48();
        promise49();
        promise50();
        promise51();
        promise52();
    }

    public static void main(String[] args) {
        promises1to26();
        promises27to52();
        Check.end();
    }
}
