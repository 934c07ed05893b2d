import java.util.function.Supplier;

/** Shelves, promises 1 to 8: each sentence that names a boundary, from both sides. */
public final class Boundary01To08Test {
    private static final int BAD = Boundary.BAD;
    private static final int OTHER = Boundary.OTHER;
    private static final int NOTHING = Boundary.NOTHING;
    private static final int NONE = Boundary.NONE;
    private static final int LOW = Boundary.LOW;
    private static final int HIGH = Boundary.HIGH;
    private static final Supplier<TownRiverBeast> RICH = Worlds::rich;
    private static final Supplier<TownRiverBeast> NEW = TownRiverBeast::new;
    private static final int[] NO_SHELVES = {-1, 8, LOW, HIGH};

    private static void promise1() {
        Boundary.at(1, "4 COLUMNS");
        Boundary.due("column 3 is there", 0, new TownRiverBeast().word(0, 0, 3, 1, 0));
        Boundary.refused("column 4 is not", BAD, NEW, x -> x.word(0, 0, 4, 1, 0));
        Boundary.told("how many", 4, NEW, x -> x.status(0));
        Boundary.at(1, "no WORDS");
        Boundary.told("how many", 0, NEW, x -> x.status(1));
        Boundary.refused("no word 0", BAD, NEW, x -> x.wordOf(0, 0));
        Boundary.refused("none to show", BAD, NEW, x -> x.show(0, 0));
        Boundary.told("none is used", 0, NEW, x -> x.status(19));
        Boundary.at(1, "nobody");
        Boundary.told("how many", 0, NEW, x -> x.status(2));
        Boundary.refused("no person 0", BAD, NEW, x -> x.score(0));
        Boundary.at(1, "SHELVES hold NOTHING");
        for (int s = 0; s < 8; s++) {
            int shelf = s;
            Boundary.told("shelf " + s, NONE, NEW, x -> x.holds(shelf));
            Boundary.refused("shelf " + s, NOTHING, NEW, x -> x.set(shelf, 0, 0));
        }
        Boundary.told("none holds something", 0, NEW, x -> x.status(18));
        Boundary.at(1, "THE TAPE is empty");
        Boundary.told("its size", 0, NEW, x -> x.status(11));
        Boundary.due("the first byte", 1, new TownRiverBeast().feed(0));
    }

    private static void promise2() {
        Boundary.at(2, "BAD");
        for (int s : NO_SHELVES) {
            Boundary.refused("shelf " + s, BAD, RICH, x -> x.row(s, 0, 0));
        }
        for (int sort : new int[] {-1, 5, 10, LOW, HIGH}) {
            Boundary.refused("sort " + sort, BAD, RICH, x -> x.row(0, sort, 0));
        }
        for (int n : new int[] {-1, 41, LOW, HIGH}) {
            Boundary.refused("of " + n, BAD, RICH, x -> x.row(0, 0, n));
        }
        Boundary.at(2, "SHELF s holds a new ROW: 1");
        for (int s : new int[] {0, 7}) {
            for (int sort = 0; sort < 5; sort++) {
                TownRiverBeast x = Worlds.rich();
                Boundary.due("shelf " + s + " of none", 1, x.row(s, sort, 0));
                Boundary.due("shelf " + s + " sort", sort, x.holds(s));
                Boundary.due("none can be set", BAD, x.set(s, 0, 1));
                Boundary.due("shelf " + s + " of 40", 1, x.row(s, sort, 40));
                Boundary.due("the last", 1, x.set(s, 39, 1));
                Boundary.due("behind the last", BAD, x.set(s, 40, 1));
            }
        }
        TownRiverBeast x = Worlds.rich();
        Boundary.due("over a row of 40", 1, x.row(4, 3, 1));
        Boundary.due("its first is new", 0, x.element(4, 0));
        Boundary.due("of 40 again", 1, x.row(4, 3, 40));
        Boundary.due("its last is new", 0, x.element(4, 39));
        Boundary.due("over a WORD", 1, x.row(2, 4, 1));
        Boundary.due("a row now", 4, x.holds(2));
        Boundary.due("not so", 0, x.element(2, 0));
    }

    private static void promise3() {
        Boundary.at(3, "BAD SHELF");
        for (int s : NO_SHELVES) {
            Boundary.refused("shelf " + s, BAD, RICH, x -> x.set(s, 0, 1));
        }
        Boundary.at(3, "BAD SHELF; OTHER; NOTHING; BAD i");
        Boundary.refused("a WORD, whatever i", OTHER, RICH, x -> x.set(2, -1, 1));
        Boundary.refused("a WORD", OTHER, RICH, x -> x.set(2, 0, 1));
        Boundary.refused("NOTHING, whatever i", NOTHING, RICH, x -> x.set(3, -1, 1));
        Boundary.refused("NOTHING", NOTHING, RICH, x -> x.set(3, 0, 1));
        for (int i : new int[] {-1, 5, LOW, HIGH}) {
            Boundary.refused("i " + i + " of five", BAD, RICH, x -> x.set(0, i, 1));
        }
        Boundary.refused("i 40 of 40", BAD, RICH, x -> x.set(4, 40, 1));
        Boundary.refused("i 0 of none", BAD, RICH, x -> x.set(6, 0, 1));
        Boundary.at(3, "Element i of the ROW in SHELF s becomes v: 1");
        TownRiverBeast x = Worlds.rich();
        Boundary.due("the first", 1, x.set(0, 0, 8));
        Boundary.due("the last", 1, x.set(0, 4, 9));
        int[] wants = {8, 1, 2, 3, 9, 0};
        for (int i = 0; i < wants.length; i++) {
            Boundary.due("element " + i, wants[i], x.element(0, i));
        }
        Boundary.due("the last of 40", 1, x.set(4, 39, 5));
        Boundary.due("the last of 40", 5, x.element(4, 39));
        lowestBits();
    }

    private static void put(int sort, long v, long want) {
        TownRiverBeast x = new TownRiverBeast();
        x.row(0, sort, 3);
        x.row(7, sort, 3);
        Boundary.due("sort " + sort + " takes " + v, 1, x.set(0, 1, v));
        Boundary.due("sort " + sort + " keeps of " + v, want, x.element(0, 1));
        Boundary.due("the one ahead", 0, x.element(0, 0));
        Boundary.due("the one behind", 0, x.element(0, 2));
        Boundary.due("of another row", 0, x.element(7, 1));
    }

    private static void lowestBits() {
        Boundary.at(Boundary.TERMS, "what is put in keeps its lowest bits (of booleans: whether it is not 0)");
        int[] bits = {8, 16, 32};
        for (int sort = 0; sort < bits.length; sort++) {
            long half = 1L << bits[sort] - 1;
            put(sort, half - 1, half - 1);
            put(sort, half, -half);
            put(sort, 2 * half - 1, -1);
            put(sort, 2 * half, 0);
            put(sort, -half, -half);
            put(sort, -half - 1, half - 1);
            put(sort, Long.MAX_VALUE, -1);
            put(sort, Long.MIN_VALUE, 0);
        }
        put(3, Long.MAX_VALUE, Long.MAX_VALUE);
        put(3, Long.MIN_VALUE, Long.MIN_VALUE);
        put(3, 1L << 32, 1L << 32);
        put(4, 0, 0);
        for (long v : new long[] {1, -1, 2, 256, 1L << 32, Long.MIN_VALUE, Long.MAX_VALUE}) {
            put(4, v, 1);
        }
    }

    private static void promise4() {
        Boundary.at(4, "BAD SHELVES; OTHER (also ROWS of two SORTS, if both hold something); NOTHING; BAD the others");
        for (int s : NO_SHELVES) {
            Boundary.refused("p " + s, BAD, RICH, x -> x.copy(s, 0, 0, 0, 1));
            Boundary.refused("q " + s, BAD, RICH, x -> x.copy(0, s, 0, 0, 1));
            Boundary.refused("q " + s + " ahead of OTHER", BAD, RICH, x -> x.copy(2, s, 0, 0, 1));
            Boundary.refused("p " + s + " ahead of NOTHING", BAD, RICH, x -> x.copy(s, 3, 0, 0, 1));
        }
        Boundary.refused("p a WORD", OTHER, RICH, x -> x.copy(2, 0, -1, 0, 1));
        Boundary.refused("q a WORD", OTHER, RICH, x -> x.copy(0, 2, -1, 0, 1));
        Boundary.refused("both a WORD", OTHER, RICH, x -> x.copy(2, 2, 0, 0, 0));
        Boundary.refused("a WORD and NOTHING", OTHER, RICH, x -> x.copy(2, 3, 0, 0, 0));
        Boundary.refused("NOTHING and a WORD", OTHER, RICH, x -> x.copy(3, 2, 0, 0, 0));
        Boundary.refused("two SORTS", OTHER, RICH, x -> x.copy(0, 1, 0, 0, 1));
        Boundary.refused("two SORTS, no n", OTHER, RICH, x -> x.copy(0, 6, 0, 0, -1));
        Boundary.refused("a ROW and NOTHING", NOTHING, RICH, x -> x.copy(0, 3, -1, 0, 1));
        Boundary.refused("NOTHING and a ROW", NOTHING, RICH, x -> x.copy(3, 0, -1, 0, 1));
        Boundary.refused("NOTHING twice", NOTHING, RICH, x -> x.copy(3, 7, 0, 0, 0));
        pairsOfSorts();
        copyPlaces();
        copyAsTheyWere();
    }

    private static void pairsOfSorts() {
        for (int a = 0; a < 5; a++) {
            for (int b = 0; b < 5; b++) {
                TownRiverBeast x = new TownRiverBeast();
                x.row(0, a, 1);
                x.row(1, b, 1);
                Boundary.due("sorts " + a + " and " + b, a == b ? 1 : OTHER, x.copy(0, 1, 0, 0, 1));
                x.row(1, b, 0);
                Boundary.due("sorts " + a + " and " + b + ", none", a == b ? 0 : OTHER, x.copy(0, 1, 0, 0, 0));
            }
        }
    }

    /** Five ints on shelf 0, three on shelf 1, none on shelf 2. */
    private static TownRiverBeast threeRows() {
        TownRiverBeast x = new TownRiverBeast();
        Check.row(x, 0, 1, 2, 3, 4, 5);
        Check.row(x, 1, 6, 7, 8);
        x.row(2, 2, 0);
        x.image();
        return x;
    }

    private static void copyPlaces() {
        Boundary.at(4, "BAD the others");
        Supplier<TownRiverBeast> rows = Boundary01To08Test::threeRows;
        int[][] wrong = {{0, 1, -1, 0, 1}, {0, 1, 0, -1, 1}, {0, 1, 0, 0, -1}, {0, 1, 5, 0, 1}, {0, 1, 3, 0, 3}, {0, 1, 0, 3, 1},
            {0, 1, 0, 1, 3}, {0, 1, 0, 0, 4}, {1, 0, 0, 0, 4}, {0, 1, 6, 0, 0}, {0, 1, 0, 4, 0}, {0, 1, -1, 0, 0}, {0, 1, 0, -1, 0},
            {0, 2, 0, 0, 1}, {2, 0, 0, 0, 1}, {0, 0, 0, 1, 5}, {0, 0, 1, 0, 5}, {0, 0, 0, 0, 6}, {0, 1, HIGH, 0, 1}, {0, 1, 0, HIGH, 1},
            {0, 1, 0, 0, HIGH}, {0, 1, HIGH, HIGH, HIGH}, {0, 1, 1, 1, HIGH}, {0, 1, LOW, 0, 1}, {0, 1, 0, LOW, 1}, {0, 1, 0, 0, LOW},
            {0, 1, HIGH, 0, LOW}, {0, 1, LOW, LOW, LOW}};
        for (int[] r : wrong) {
            Boundary.refused("copy " + java.util.Arrays.toString(r), BAD, rows, x -> x.copy(r[0], r[1], r[2], r[3], r[4]));
        }
        Boundary.told("none from the first", 0, rows, x -> x.copy(0, 1, 0, 0, 0));
        Boundary.told("none from behind the last", 0, rows, x -> x.copy(0, 1, 5, 3, 0));
        Boundary.told("none of none", 0, rows, x -> x.copy(2, 2, 0, 0, 0));
        Boundary.told("onto itself", 5, rows, x -> x.copy(0, 0, 0, 0, 5));
    }

    private static void row(String how, TownRiverBeast x, int s, int... wants) {
        for (int i = 0; i < wants.length; i++) {
            Boundary.due(how + ", element " + i, wants[i], x.element(s, i));
        }
    }

    private static void copyAsTheyWere() {
        Boundary.at(4, "come to places j on of that in q (as they were): n");
        TownRiverBeast x = threeRows();
        Boundary.due("all places of q", 3, x.copy(0, 1, 2, 0, 3));
        row("q", x, 1, 3, 4, 5);
        row("p", x, 0, 1, 2, 3, 4, 5);
        Boundary.due("forth", 4, x.copy(0, 0, 0, 1, 4));
        row("forth", x, 0, 1, 1, 2, 3, 4);
        x = threeRows();
        Boundary.due("back", 4, x.copy(0, 0, 1, 0, 4));
        row("back", x, 0, 2, 3, 4, 5, 5);
        x = threeRows();
        Boundary.due("one to the last place", 1, x.copy(0, 1, 4, 2, 1));
        row("one", x, 1, 6, 7, 5);
        x.row(3, 2, 40);
        x.row(4, 2, 40);
        x.set(3, 0, 11);
        x.set(3, 39, 12);
        Boundary.due("all 40", 40, x.copy(3, 4, 0, 0, 40));
        Boundary.due("all 40", 11, x.element(4, 0));
        Boundary.due("all 40", 12, x.element(4, 39));
    }

    private static void promise5() {
        Boundary.at(5, "0: none, no ROW (nothing is refused)");
        Boundary.told("the first", 7, RICH, x -> x.element(1, 0));
        Boundary.told("the last", -7, RICH, x -> x.element(1, 1));
        for (int i : new int[] {-1, 2, LOW, HIGH}) {
            Boundary.told("none at " + i, 0, RICH, x -> x.element(1, i));
        }
        Boundary.told("the last of 40", 9, RICH, x -> x.element(4, 39));
        Boundary.told("behind 40", 0, RICH, x -> x.element(4, 40));
        Boundary.told("a row of none", 0, RICH, x -> x.element(6, 0));
        Boundary.told("a WORD", 0, RICH, x -> x.element(2, 0));
        Boundary.told("NOTHING", 0, RICH, x -> x.element(3, 0));
        for (int s : NO_SHELVES) {
            Boundary.told("shelf " + s, 0, RICH, x -> x.element(s, 0));
        }
        Boundary.told("a long whole", 1L << 40, RICH, x -> x.element(4, 0));
        Boundary.told("a boolean as 1", 1, RICH, x -> x.element(5, 1));
        Boundary.told("a boolean as 0", 0, RICH, x -> x.element(5, 0));
        TownRiverBeast x = Worlds.rich();
        x.row(4, 3, 39);
        x.row(0, 2, 1);
        Boundary.due("a shorter row has no 40th", 0, x.element(4, 39));
        Boundary.due("a shorter row has no second", 0, x.element(0, 1));
        x.show(1, 0);
        Boundary.due("a WORD over a row", 0, x.element(1, 0));
    }

    private static void promise6() {
        Boundary.at(6, "NONE NOTHING, no SHELF");
        Boundary.told("NOTHING", NONE, RICH, x -> x.holds(3));
        for (int s : NO_SHELVES) {
            Boundary.told("shelf " + s, NONE, RICH, x -> x.holds(s));
        }
        Boundary.at(6, "0 to 4 a ROW by its SORT");
        int[] wants = {2, 0, 11, NONE, 3, 4, 1, NONE};
        for (int s = 0; s < 8; s++) {
            int shelf = s;
            Boundary.told("shelf " + s, wants[s], RICH, x -> x.holds(shelf));
        }
        Boundary.at(6, "10 and the number of a WORD");
        TownRiverBeast x = Worlds.words(24);
        x.show(0, 0);
        x.show(7, 23);
        Boundary.due("the first", 10, x.holds(0));
        Boundary.due("the last", 33, x.holds(7));
    }

    private static void promise7() {
        Boundary.at(7, "BAD");
        for (int s : NO_SHELVES) {
            Boundary.refused("shelf " + s, BAD, RICH, x -> x.show(s, 0));
            Boundary.refused("shelf " + s + ", NOTHING", BAD, RICH, x -> x.show(s, NONE));
        }
        for (int w : new int[] {-2, 7, 23, 24, LOW, HIGH}) {
            Boundary.refused("word " + w, BAD, RICH, x -> x.show(0, w));
        }
        Boundary.at(7, "SHELF s holds a WORD, or NOTHING (word NONE): 1");
        for (int s = 0; s < 8; s++) {
            TownRiverBeast x = Worlds.rich();
            Boundary.due("the first", 1, x.show(s, 0));
            Boundary.due("the first", 10, x.holds(s));
            Boundary.due("the last", 1, x.show(s, 6));
            Boundary.due("the last", 16, x.holds(s));
            Boundary.due("NOTHING", 1, x.show(s, NONE));
            Boundary.due("NOTHING", NONE, x.holds(s));
            Boundary.due("NOTHING", NOTHING, x.says(s, 0));
            Boundary.due("NOTHING again", 1, x.show(s, NONE));
            Boundary.due("one shelf fewer", s == 3 || s == 7 ? 6 : 5, x.status(18));
        }
    }

    private static void promise8() {
        Boundary.at(8, "BAD SHELF, KIND; OTHER (also if it is of no such KIND nor of one under it); NOTHING");
        for (int s : NO_SHELVES) {
            Boundary.refused("shelf " + s, BAD, RICH, x -> x.says(s, 0));
        }
        for (int kind : new int[] {-1, 6, LOW, HIGH}) {
            Boundary.refused("kind " + kind, BAD, RICH, x -> x.says(2, kind));
            Boundary.refused("kind " + kind + " ahead of OTHER", BAD, RICH, x -> x.says(0, kind));
            Boundary.refused("kind " + kind + " ahead of NOTHING", BAD, RICH, x -> x.says(3, kind));
        }
        Boundary.refused("a ROW", OTHER, RICH, x -> x.says(0, 0));
        Boundary.refused("a ROW of none", OTHER, RICH, x -> x.says(6, 5));
        Boundary.refused("NOTHING", NOTHING, RICH, x -> x.says(3, 0));
        Boundary.refused("NOTHING as LONG", NOTHING, RICH, x -> x.says(7, 5));
        kindsUnderKinds();
        saysOfSheets();
        saysOfKnowers();
        Boundary.at(8, "LONG its a");
        for (int a : new int[] {0, 9}) {
            TownRiverBeast x = Worlds.of("word 5 0 0 1 " + a);
            x.show(0, 0);
            Boundary.due("a " + a, a, x.says(0, 5));
        }
        Boundary.at(8, "WORD what it TAKES");
        TownRiverBeast x = Worlds.of("word 5 0 0 60 9;word 3 0 0 1 0");
        x.show(0, 0);
        x.show(1, 1);
        Boundary.due("the most", 74, x.says(0, 0));
        Boundary.due("the least", 1, x.says(1, 0));
    }

    /** Of each kind of word, as which kinds it can be taken. */
    private static void kindsUnderKinds() {
        Boundary.at(Boundary.TERMS,
            "0 WORD; 1 COMMON, 2 RARE, 4 INVENTED, each under WORD; 3 AVOIDED, under COMMON; 5 LONG, under RARE");
        String[] taken = {"0", "01", "02", "013", "04", "025"};
        for (int kind = 0; kind < 6; kind++) {
            int own = kind;
            for (int as = 0; as < 6; as++) {
                int other = as;
                Supplier<TownRiverBeast> world = () -> {
                    TownRiverBeast x = new TownRiverBeast();
                    x.word(own, 0, 0, 8, 0);
                    x.show(0, 0);
                    return x;
                };
                String how = "kind " + kind + " as " + as;
                if (taken[kind].indexOf('0' + as) < 0) {
                    Boundary.refused(how, OTHER, world, x -> x.says(0, other));
                } else {
                    int cost = kind == 1 || kind == 3 ? 4 : kind == 5 ? 13 : 8;
                    Boundary.told(how, as == 0 ? cost : 0, world, x -> x.says(0, other));
                }
            }
        }
    }

    private static void saysOfSheets() {
        TownRiverBeast x = Worlds.of("word 3 0 0 5 0;person;person;person;person;knows 0 0;knows 1 0;knows 2 0;knows 3 0");
        x.show(0, 0);
        for (int n = 0; n <= 4; n++) {
            Boundary.at(8, "COMMON how many SHEETS have it");
            Boundary.due("on " + n, n, x.says(0, 1));
            Boundary.at(8, "AVOIDED 1 if just one SHEET has it, else 0");
            Boundary.due("on " + n, n == 1 ? 1 : 0, x.says(0, 3));
            if (n < 4) {
                Check.sheet(x, n, 0);
            }
        }
    }

    private static void saysOfKnowers() {
        for (int people = 0; people <= 4; people++) {
            for (int knowers = 0; knowers <= people; knowers++) {
                TownRiverBeast x = Worlds.people(people);
                x.word(4, 0, 0, 5, 0);
                x.word(2, 0, 0, 5, 0);
                for (int p = 0; p < knowers; p++) {
                    x.knows(people - 1 - p, 0, true);
                    x.knows(people - 1 - p, 1, true);
                }
                x.show(0, 0);
                x.show(1, 1);
                Boundary.at(8, "INVENTED how many more would have to KNOW it for half of all PEOPLE (0: none)");
                int more = 0;
                while (2 * (knowers + more) < people) {
                    more++;
                }
                Boundary.due(knowers + " of " + people, more, x.says(0, 4));
                Boundary.at(8, "RARE how many KNOW it");
                Boundary.due(knowers + " of " + people, knowers, x.says(1, 2));
            }
        }
    }

    public static void main(String[] args) {
        promise1();
        promise2();
        promise3();
        promise4();
        promise5();
        promise6();
        promise7();
        promise8();
        Boundary.covers(1, 8);
        Check.end();
    }
}
