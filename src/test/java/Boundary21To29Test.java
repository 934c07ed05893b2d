import java.util.function.Supplier;

/** A round, the best sheet and orders, promises 21 to 29: each sentence that names a boundary, from both sides. */
public final class Boundary21To29Test {
    private static final int BAD = Boundary.BAD;
    private static final int STUCK = Boundary.STUCK;
    private static final int NONE = Boundary.NONE;
    private static final int LOW = Boundary.LOW;
    private static final int HIGH = Boundary.HIGH;
    private static final int NEED = 1;
    private static final int BELL = 2;
    private static final int ALONE = 3;
    private static final int OWN = 4;
    private static final int ALIKE = 5;
    private static final int VOTE = 6;
    private static final int BAR = 7;
    private static final Supplier<TownRiverBeast> RICH = Worlds::rich;
    private static final Supplier<TownRiverBeast> NEW = TownRiverBeast::new;
    private static final int[] NO_PEOPLE = {-1, 3, LOW, HIGH};

    /** One person whose five words are written by 1, 3, 6, 10 and 15, or so many of them. */
    private static TownRiverBeast five(int words) {
        TownRiverBeast x = Worlds.knowing(1, 1, 2, 3, 4, 5);
        Check.sheet(x, 0, java.util.Arrays.copyOf(new int[] {0, 1, 2, 3, 4}, words));
        return x;
    }

    /** Two people, each with one word of column 0 that takes so long; one word is enough to call. */
    private static TownRiverBeast race(int first, int second) {
        TownRiverBeast x = Worlds.knowing(2, first, 60, 60, 60, 60, second);
        Check.sheet(x, 0, 0);
        Check.sheet(x, 1, 5);
        x.ask(NEED, 1);
        return x;
    }

    private static void promise21() {
        Boundary.at(21, "STUCK: nobody is there");
        Boundary.refused("nobody", STUCK, NEW, TownRiverBeast::call);
        Boundary.refused("words, but nobody", STUCK, () -> Worlds.words(2), TownRiverBeast::call);
        Boundary.told("somebody", 180, () -> Worlds.people(1), TownRiverBeast::call);
        Boundary.told("in thought", 28, RICH, TownRiverBeast::call);
        Boundary.at(Boundary.TERMS, "BELL at most; BELL, if nobody has by then");
        for (int bell : new int[] {1, 600}) {
            TownRiverBeast x = Worlds.people(4);
            x.ask(BELL, bell);
            Boundary.due("nobody writes, BELL " + bell, bell, x.call());
        }
        int[] ready = {1, 3, 6, 10, 15};
        for (int words = 0; words <= 5; words++) {
            for (int need = 1; need <= 5; need++) {
                for (int bell : new int[] {1, ready[need - 1] - 1, ready[need - 1], ready[need - 1] + 1, 600}) {
                    TownRiverBeast x = five(words);
                    x.ask(NEED, need);
                    int then = Math.max(1, bell);
                    x.ask(BELL, then);
                    boolean has = words >= need && ready[need - 1] <= then;
                    String how = words + " words, NEED " + need + ", BELL " + then;
                    Boundary.due(how, has ? ready[need - 1] : then, x.call());
                    Boundary.due(how + ", caller", has ? 0 : NONE, x.caller());
                }
            }
        }
        longest();
        noTime();
    }

    private static void longest() {
        TownRiverBeast x = Worlds.of("columns 5;word 5 0 0 60 9;word 5 0 1 60 9;word 5 0 2 60 9;word 5 0 3 60 9;word 5 0 4 60 9/"
            + "person;knows 0 0;knows 0 1;knows 0 2;knows 0 3;knows 0 4;sheet 0 0 1 2 3 4;need 5;bell 600");
        Boundary.due("the longest sheet", 370, x.call());
        x.ask(BELL, 370);
        Boundary.due("at BELL", 0, x.caller());
        Boundary.due("all at BELL", 31, x.written(0, 370));
        Boundary.due("not all ahead of it", 15, x.written(0, 369));
        x.ask(BELL, 369);
        Boundary.due("behind BELL", 369, x.call());
        Boundary.due("behind BELL", NONE, x.caller());
    }

    private static void noTime() {
        Boundary.at(Boundary.TERMS, "a WORD of it that couldn't be on it now counts for nothing, and takes no time");
        TownRiverBeast x = five(5);
        Boundary.due("four of five", 10, x.call());
        x.knows(0, 0, false);
        Boundary.due("the first is unknown", 14, x.call());
        Boundary.due("it isn't written", 30, x.written(0, 600));
        Boundary.due("by 14", 30, x.written(0, 14));
        Boundary.due("by 13", 14, x.written(0, 13));
        x.knows(0, 4, false);
        Boundary.due("only three count", 180, x.call());
        Boundary.due("only three count", NONE, x.caller());
        Boundary.due("points", 60, x.points(0, NONE));
        x.ask(0, 1);
        Boundary.due("another letter", 0, x.written(0, 600));
        Boundary.due("no points", 0, x.points(0, NONE));
        x.ask(0, 0);
        x = five(5);
        x.ask(NEED, 1);
        x.round();
        Check.sheet(x, 0, 0, 1, 2, 3, 4);
        Boundary.due("used, not barred", 1, x.call());
        x.ask(BAR, 1);
        Boundary.due("barred", 2, x.call());
        Boundary.due("barred", 0, x.written(0, 1));
        Boundary.due("barred", 2, x.written(0, 2));
        x.ask(BAR, 0);
        Boundary.due("not barred again", 1, x.call());
    }

    private static void promise22() {
        Boundary.at(22, "CALLER; NONE");
        Boundary.told("nobody is there", NONE, NEW, TownRiverBeast::caller);
        Boundary.told("nobody writes", NONE, () -> Worlds.people(4), TownRiverBeast::caller);
        Boundary.told("in thought", 0, RICH, TownRiverBeast::caller);
        Boundary.at(Boundary.TERMS, "CALLER: the first by numbers who has NEED by THE CALL; NONE.");
        Boundary.due("one second later", 0, race(10, 11).caller());
        Boundary.due("at once", 0, race(10, 10).caller());
        Boundary.due("one second earlier", 1, race(10, 9).caller());
        int[] wants = {NONE, 1, 1, 0};
        int[] bells = {9, 10, 11, 12};
        for (int k = 0; k < 3; k++) {
            TownRiverBeast x = race(12, 10);
            x.ask(BELL, bells[k]);
            Boundary.due("BELL " + bells[k], wants[k], x.caller());
        }
        TownRiverBeast x = race(12, 12);
        x.ask(BELL, 12);
        Boundary.due("both at BELL", 0, x.caller());
        x.knows(0, 0, false);
        Boundary.due("the second at BELL", 1, x.caller());
        x.ask(BELL, 11);
        Boundary.due("none by BELL", NONE, x.caller());
    }

    private static void promise23() {
        Boundary.at(23, "WORDS (bits) a person has WRITTEN by a second (0 to 600). BAD");
        for (int second : new int[] {-1, 601, LOW, HIGH}) {
            Boundary.refused("by " + second, BAD, RICH, x -> x.written(0, second));
        }
        for (int person : NO_PEOPLE) {
            Boundary.refused("person " + person, BAD, RICH, x -> x.written(person, 0));
        }
        Boundary.told("by 0", 0, RICH, x -> x.written(0, 0));
        Boundary.told("by 600", 47, RICH, x -> x.written(0, 600));
        Boundary.told("whatever THE CALL", 47, RICH, x -> x.written(0, 45));
        Boundary.at(Boundary.TERMS, "if that isn't less than TAKES of it and all ahead of it together");
        int[] ready = {1, 3, 6, 10, 15};
        TownRiverBeast x = five(5);
        for (int k = 0; k < 5; k++) {
            Boundary.due("just ahead of " + ready[k], (1 << k) - 1, x.written(0, ready[k] - 1));
            Boundary.due("just at " + ready[k], (2 << k) - 1, x.written(0, ready[k]));
        }
        TownRiverBeast y = Worlds.words(24);
        y.person();
        y.knows(0, 23, true);
        Check.sheet(y, 0, 23);
        Boundary.due("the last word's bit", 1 << 23, y.written(0, 1));
    }

    private static void promise24() {
        Boundary.at(24, "KEPT (bits). BAD");
        for (int person : NO_PEOPLE) {
            Boundary.refused("person " + person, BAD, RICH, x -> x.kept(person));
        }
        Boundary.refused("nobody", BAD, NEW, x -> x.kept(0));
        int[] wants = {15, 7, 16};
        for (int p = 0; p < 3; p++) {
            int person = p;
            Boundary.told("person " + p, wants[p], RICH, x -> x.kept(person));
        }
        Boundary.at(Boundary.TERMS, "KEPT: WORDS WRITTEN by THE CALL");
        Boundary.due("at THE CALL", 32, race(10, 10).kept(1));
        Boundary.due("one second behind it", 0, race(10, 11).kept(1));
        TownRiverBeast x = race(10, 11);
        x.ask(NEED, 2);
        x.ask(BELL, 11);
        Boundary.due("at BELL", 32, x.kept(1));
        x.ask(BELL, 10);
        Boundary.due("one second behind BELL", 0, x.kept(1));
        vote();
    }

    private static void vote() {
        Boundary.at(Boundary.TERMS, "if VOTE is 1, an INVENTED one just if half of all PEOPLE at least KNOW it");
        for (int people = 1; people <= 4; people++) {
            for (int knowers = 1; knowers <= people; knowers++) {
                for (int kind = 0; kind < 6; kind++) {
                    TownRiverBeast x = Worlds.people(people);
                    x.word(kind, 0, 0, 5, 0);
                    for (int p = 0; p < knowers; p++) {
                        x.knows(p, 0, true);
                    }
                    Check.sheet(x, 0, 0);
                    String how = knowers + " of " + people + ", kind " + kind;
                    boolean stays = kind != 4 || 2 * knowers >= people;
                    Boundary.due(how + ", no VOTE", 1, x.kept(0));
                    x.ask(VOTE, 1);
                    Boundary.due(how, stays ? 1 : 0, x.kept(0));
                    Boundary.due(how + ", written", 1, x.written(0, 180));
                    Boundary.due(how + ", points", stays ? 20 : 0, x.points(0, NONE));
                    x.ask(NEED, 1);
                    Boundary.due(how + ", one calls all the same", 0, x.caller());
                }
            }
        }
    }

    private static void promise25() {
        Boundary.at(25, "in a COLUMN (column NONE: in all). BAD");
        for (int column : new int[] {-2, 5, LOW, HIGH}) {
            Boundary.refused("column " + column, BAD, RICH, x -> x.points(0, column));
        }
        for (int person : NO_PEOPLE) {
            Boundary.refused("person " + person, BAD, RICH, x -> x.points(person, NONE));
            Boundary.refused("person " + person, BAD, RICH, x -> x.points(person, 0));
        }
        int[] wants = {35, 5, 5, 5, 20, 0};
        for (int c = -1; c < 5; c++) {
            int column = c;
            Boundary.told("column " + c, wants[c + 1], RICH, x -> x.points(0, column));
        }
        for (int n = 1; n <= 5; n++) {
            int columns = n;
            Supplier<TownRiverBeast> world = () -> {
                TownRiverBeast x = Worlds.people(1);
                x.columns(columns);
                return x;
            };
            Boundary.told("the last of " + n, 0, world, x -> x.points(0, columns - 1));
            Boundary.refused("behind " + n, BAD, world, x -> x.points(0, columns));
        }
        Boundary.at(Boundary.TERMS, "ALONE, if nobody else has KEPT one in its COLUMN; else OWN, if nobody else has KEPT it; else ALIKE");
        Boundary.due("another in the column at THE CALL", 10, race(10, 10).points(0, 0));
        Boundary.due("another in the column", 10, race(10, 10).points(1, NONE));
        Boundary.due("another one second later", 20, race(10, 11).points(0, 0));
        Boundary.due("which isn't kept", 0, race(10, 11).points(1, 0));
        TownRiverBeast x = race(10, 10);
        Check.sheet(x, 1, 0);
        Boundary.due("the same", 5, x.points(0, 0));
        Boundary.due("the same", 5, x.points(1, 0));
        x.person();
        x.knows(2, 5, true);
        Check.sheet(x, 2, 5);
        Boundary.due("two the same, one another", 5, x.points(1, 0));
        Boundary.due("the other", 10, x.points(2, 0));
        Check.sheet(x, 1);
        Boundary.due("two of their own", 10, x.points(0, 0));
        for (int what = ALONE; what <= ALIKE; what++) {
            x.ask(what, what == OWN ? 50 : 0);
        }
        Boundary.due("OWN at most", 50, x.points(0, 0));
        Check.sheet(x, 2);
        Boundary.due("ALONE at least", 0, x.points(0, 0));
    }

    private static void promise26() {
        Boundary.at(26, "WINNER. STUCK: nobody is there");
        Boundary.refused("nobody", STUCK, NEW, TownRiverBeast::winner);
        Boundary.told("one without a point", 0, () -> Worlds.people(1), TownRiverBeast::winner);
        Boundary.told("in thought", 0, RICH, TownRiverBeast::winner);
        Boundary.at(Boundary.TERMS, "WINNER: the one with most POINTS of all, of several the first.");
        Boundary.told("four without a point", 0, () -> Worlds.people(4), TownRiverBeast::winner);
        Boundary.due("alike", 0, race(10, 10).winner());
        Boundary.due("the second alone", 1, race(10, 9).winner());
        TownRiverBeast x = Worlds.knowing(4, 1, 1, 1, 1, 1);
        Check.sheet(x, 2, 0, 1);
        Check.sheet(x, 3, 2, 3);
        Boundary.due("of two the first", 2, x.winner());
        Check.sheet(x, 3, 2, 3, 4);
        Boundary.due("the last", 3, x.winner());
        x.ask(ALONE, 0);
        Boundary.due("no points at all", 0, x.winner());
    }

    private static void promise27() {
        Boundary.at(27, "POINTS (what 0), WORDS (1, bits), THE CALL by it (2). BAD");
        for (int what : new int[] {-1, 3, LOW, HIGH}) {
            Boundary.refused("what " + what, BAD, RICH, x -> x.best(0, what));
        }
        for (int person : NO_PEOPLE) {
            Boundary.refused("person " + person, BAD, RICH, x -> x.best(person, 0));
        }
        Boundary.refused("nobody", BAD, NEW, x -> x.best(0, 0));
        Boundary.told("POINTS", 50, RICH, x -> x.best(0, 0));
        Boundary.told("WORDS", 43, RICH, x -> x.best(0, 1));
        Boundary.told("THE CALL", 32, RICH, x -> x.best(0, 2));
        int[] none = {0, 0, 180};
        for (int what = 0; what < 3; what++) {
            int one = what;
            Boundary.told("no words: " + what, none[what], () -> Worlds.people(1), x -> x.best(0, one));
        }
        bestInTime();
        bestOfSeveral();
        bestAgainstOthers();
    }

    private static void best(String how, TownRiverBeast x, int person, int points, int bits, int second) {
        Boundary.due(how + ", points", points, x.best(person, 0));
        Boundary.due(how + ", words", bits, x.best(person, 1));
        Boundary.due(how + ", call", second, x.best(person, 2));
    }

    private static void bestInTime() {
        Boundary.at(Boundary.TERMS, "of all sets of WORDS that can be on it together, written by what they TAKE");
        TownRiverBeast x = Worlds.knowing(1, 1, 2, 3, 4, 5);
        best("NEED 4", x, 0, 80, 15, 10);
        x.ask(BELL, 10);
        best("at BELL", x, 0, 80, 15, 10);
        x.ask(BELL, 9);
        best("one second behind BELL", x, 0, 60, 7, 9);
        x.ask(BELL, 1);
        best("BELL 1", x, 0, 20, 1, 1);
        x.knows(0, 0, false);
        best("none by BELL", x, 0, 0, 0, 1);
        x.ask(BELL, 2);
        best("one by BELL", x, 0, 20, 2, 2);
        x.ask(BELL, 600);
        x.ask(NEED, 5);
        best("NEED 5, four known", x, 0, 80, 30, 600);
        x.knows(0, 0, true);
        best("NEED 5", x, 0, 100, 31, 15);
        x.ask(NEED, 1);
        best("NEED 1", x, 0, 20, 1, 1);
        x.ask(0, 25);
        best("no word of THE LETTER", x, 0, 0, 0, 600);
    }

    private static void bestOfSeveral() {
        Boundary.at(Boundary.TERMS, "that by which the person has most POINTS, of several the first as bits (least)");
        best("two of a column", Worlds.knowing(1, 9, 30, 30, 30, 30, 9), 0, 80, 15, 99);
        TownRiverBeast x = Worlds.knowing(1, 9, 60, 60, 60, 60, 8);
        x.ask(NEED, 1);
        best("the lesser number, though it takes longer", x, 0, 20, 1, 9);
        x.ask(BELL, 8);
        best("the only one by BELL", x, 0, 20, 32, 8);
        x.ask(BELL, 7);
        best("none by BELL", x, 0, 0, 0, 7);
        x.ask(BELL, 180);
        x.ask(ALONE, 0);
        best("nothing to gain", x, 0, 0, 0, 180);
        x.ask(ALONE, 1);
        best("something to gain", x, 0, 1, 1, 9);
        Boundary.at(Boundary.TERMS, "(the least first, of alike the lesser number)");
        x = Worlds.knowing(1, 7, 5, 5, 6, 5);
        x.ask(NEED, 5);
        x.takeBest(0);
        int[] wants = {1, 2, 4, 3, 0};
        for (int i = 0; i < 5; i++) {
            Boundary.due("place " + i, wants[i], x.sheetOf(0, i));
        }
    }

    private static void bestAgainstOthers() {
        Boundary.at(Boundary.TERMS, "BEST SHEET of a person, the others' as they are");
        for (int own : new int[] {9, 10, 11}) {
            TownRiverBeast x = race(own, 10);
            x.knows(0, 5, false);
            int[] points = {20, 10, 0};
            int[] calls = {9, 10, 10};
            best("word of " + own + " seconds", x, 0, points[own - 9], own == 11 ? 0 : 1, calls[own - 9]);
        }
        TownRiverBeast x = race(10, 10);
        best("its own, not the other's", x, 0, 10, 1, 10);
        x.knows(0, 0, false);
        best("only the other's", x, 0, 5, 32, 10);
        x.ask(OWN, 0);
        x.ask(ALIKE, 50);
        x.knows(0, 0, true);
        best("alike is dearer", x, 0, 50, 32, 10);
        Check.sheet(x, 1);
        best("the other writes nothing", x, 0, 20, 1, 10);
    }

    private static void promise28() {
        Boundary.at(28, "POINTS (i NONE), the i-th WORD. BAD; STUCK: not so many");
        for (int i : new int[] {-2, LOW}) {
            Boundary.refused("i " + i, BAD, RICH, x -> x.order(0, i));
        }
        for (int person : NO_PEOPLE) {
            Boundary.refused("person " + person, BAD, RICH, x -> x.order(person, NONE));
            Boundary.refused("person " + person + " ahead of STUCK", BAD, RICH, x -> x.order(person, 9));
        }
        int[] many = {5, 3, 1};
        int[] last = {2, 2, 4};
        for (int p = 0; p < 3; p++) {
            int person = p;
            Boundary.told("the last of " + p, last[p], RICH, x -> x.order(person, many[person] - 1));
            Boundary.refused("behind the last of " + p, STUCK, RICH, x -> x.order(person, many[person]));
            Boundary.refused("far behind", STUCK, RICH, x -> x.order(person, HIGH));
        }
        Boundary.told("none on the sheet", 0, () -> Worlds.people(1), x -> x.order(0, NONE));
        Boundary.refused("none on the sheet", STUCK, () -> Worlds.people(1), x -> x.order(0, 0));
        Boundary.at(28, "that by which POINTS are most, of several the first (by rows of numbers)");
        TownRiverBeast x = Worlds.knowing(1, 5, 6, 7, 8, 9);
        Check.sheet(x, 0, 4, 3, 2, 1, 0);
        x.ask(NEED, 5);
        orders("all in time", x, 100, 0, 1, 2, 3, 4);
        x.ask(BELL, 35);
        orders("just in time", x, 100, 0, 1, 2, 3, 4);
        x.ask(BELL, 34);
        orders("the last is late", x, 80, 0, 1, 2, 3, 4);
        x.ask(BELL, 5);
        orders("only the first", x, 20, 0, 1, 2, 3, 4);
        x.ask(BELL, 4);
        orders("none", x, 0, 0, 1, 2, 3, 4);
        x = Worlds.knowing(1, 9, 8, 7, 6, 5);
        Check.sheet(x, 0, 0, 1, 2, 3, 4);
        x.ask(BELL, 5);
        orders("only the last", x, 20, 4, 0, 1, 2, 3);
        x.ask(BELL, 6);
        orders("one of two", x, 20, 3, 0, 1, 2, 4);
        x.ask(BELL, 10);
        orders("none of two", x, 20, 0, 1, 2, 3, 4);
        x.ask(BELL, 11);
        orders("two", x, 40, 3, 4, 0, 1, 2);
        Boundary.due("in thought", 0, x.sheetOf(0, 0));
    }

    private static void orders(String how, TownRiverBeast x, int points, int... words) {
        Boundary.due(how + ", points", points, x.order(0, NONE));
        for (int i = 0; i < words.length; i++) {
            Boundary.due(how + ", place " + i, words[i], x.order(0, i));
        }
    }

    private static void promise29() {
        Boundary.at(29, "(i, j below how many there are)");
        int[] many = {5, 3, 1};
        for (int p = 0; p < 3; p++) {
            int person = p;
            for (int i : new int[] {-1, many[p], LOW, HIGH}) {
                Boundary.refused("i " + i + " of " + many[p], BAD, RICH, x -> x.swap(person, i, 0));
                Boundary.refused("j " + i + " of " + many[p], BAD, RICH, x -> x.swap(person, 0, i));
            }
        }
        for (int person : NO_PEOPLE) {
            Boundary.refused("person " + person, BAD, RICH, x -> x.swap(person, 0, 0));
        }
        Boundary.refused("none on the sheet", BAD, () -> Worlds.people(1), x -> x.swap(0, 0, 0));
        Boundary.at(29, "in truth: the one that is at i then. BAD");
        TownRiverBeast x = Worlds.rich();
        Boundary.due("first and last", 5, x.swap(0, 0, 4));
        int[] wants = {5, 1, 2, 3, 0};
        for (int i = 0; i < 5; i++) {
            Boundary.due("place " + i, wants[i], x.sheetOf(0, i));
        }
        Boundary.due("last and first", 5, x.swap(0, 4, 0));
        Boundary.due("as it was", 0, x.sheetOf(0, 0));
        Boundary.due("another's stays", 0, x.sheetOf(1, 0));
        Boundary.told("the only one with itself", 4, RICH, y -> y.swap(2, 0, 0));
        Boundary.told("the last with itself", 5, RICH, y -> y.swap(0, 4, 4));
        x.ask(0, 25);
        Boundary.due("though it counts for nothing now", 1, x.swap(0, 0, 1));
    }

    public static void main(String[] args) {
        promise21();
        promise22();
        promise23();
        promise24();
        promise25();
        promise26();
        promise27();
        promise28();
        promise29();
        Boundary.covers(21, 29);
        Check.end();
    }
}
