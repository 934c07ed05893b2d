/**
 * Town, river, beast: an evening of people who write words by a letter, a word a column.
 * What each call promises stands in DOC.md; README.md says how to use it.
 */
public final class TownRiverBeast {
    public static final int NONE = -1;

    private static final int BAD = -2;
    private static final int OTHER = -3;
    private static final int NOTHING = -4;
    private static final int STUCK = -5;
    private static final int FULL = -6;
    private static final int FINE = 0;

    private static final int MOST_COLUMNS = 5;
    private static final int MOST_WORDS = 24;
    private static final int MOST_PEOPLE = 4;
    private static final int MOST_ON_SHEET = 5;
    private static final int MOST_SECONDS = 60;
    private static final int MOST_EXTRA = 9;
    private static final int MOST_BELL = 600;
    private static final int MOST_SHELVES = 8;
    private static final int MOST_ELEMENTS = 40;
    private static final int MOST_ROUNDS = 9;
    private static final int MOST_SILENT = 1000;
    private static final int LETTERS = 26;
    private static final int TAPE_ROOM = 250;
    /** All orders of a whole sheet: 5 times 4 times 3 times 2. */
    private static final int MOST_ORDERS = 120;
    private static final int NEVER = 1000000;

    private static final int COMMON = 1;
    private static final int RARE = 2;
    private static final int AVOIDED = 3;
    private static final int INVENTED = 4;
    private static final int LONG = 5;
    private static final int KINDS = 6;
    /** For each kind the one that it is under. */
    private static final int[] UNDER = {NONE, 0, 0, COMMON, 0, RARE};

    private static final int THE_LETTER = 0;
    private static final int NEED = 1;
    private static final int BELL = 2;
    private static final int ALONE = 3;
    private static final int OWN = 4;
    private static final int ALIKE = 5;
    private static final int VOTE = 6;
    private static final int BAR = 7;
    private static final int ASKED = 8;
    private static final int[] ASK_FIRST = {0, 4, 180, 20, 10, 5, 0, 0};
    private static final int[] ASK_LEAST = {0, 1, 1, 0, 0, 0, 0, 0};
    private static final int[] ASK_MOST = {25, 5, 600, 50, 50, 50, 1, 1};

    private static final int BYTES = 0;
    private static final int SHORTS = 1;
    private static final int INTS = 2;
    private static final int LONGS = 3;
    private static final int SORTS = 5;
    private static final int A_WORD = 10;

    private static final int STATUS_ASKED = 3;
    private static final int STATUS_REFUSED = 12;
    private static final int REFUSALS = 5;

    private final Evening now = new Evening();
    private final Evening imageOfAll = new Evening();
    private final Evening thought = new Evening();
    private final Outcome outcome = new Outcome();
    private final BestSheet bestSheet = new BestSheet();
    private final Reader reader = new Reader();
    private final Shelf[] shelves = new Shelf[MOST_SHELVES];
    private final int[] refused = new int[REFUSALS];
    private final int[] orderFound = new int[MOST_ON_SHEET];
    private boolean hasImage = false;

    public TownRiverBeast() {
        for (int s = 0; s < MOST_SHELVES; s++) {
            shelves[s] = new Shelf();
        }
    }

    // ---- shelves

    public int row(int s, int sort, int n) {
        if (!isShelf(s) || !within(sort, 0, SORTS - 1) || !within(n, 0, MOST_ELEMENTS)) {
            return refuse(BAD);
        }
        shelves[s].becomeRow(sort, n);
        return 1;
    }

    public int set(int s, int i, long v) {
        int trouble = troubleOfRow(s);
        if (trouble != FINE) {
            return refuse(trouble);
        }
        if (!within(i, 0, shelves[s].size - 1)) {
            return refuse(BAD);
        }
        shelves[s].put(i, v);
        return 1;
    }

    public int copy(int p, int q, int i, int j, int n) {
        int trouble = troubleOfPair(p, q);
        if (trouble != FINE) {
            return refuse(trouble);
        }
        Shelf from = shelves[p];
        Shelf to = shelves[q];
        if (n < 0 || !within(i, 0, from.size - n) || !within(j, 0, to.size - n)) {
            return refuse(BAD);
        }
        System.arraycopy(from.elements, i, to.elements, j, n);
        return n;
    }

    public long element(int s, int i) {
        if (!isShelf(s) || !shelves[s].hasRow() || !within(i, 0, shelves[s].size - 1)) {
            return 0;
        }
        return shelves[s].elements[i];
    }

    public int holds(int s) {
        if (!isShelf(s)) {
            return NONE;
        }
        Shelf shelf = shelves[s];
        return shelf.hasWord() ? A_WORD + shelf.shownWord : shelf.content;
    }

    public int show(int s, int word) {
        if (!isShelf(s) || (word != NONE && !now.isWord(word))) {
            return refuse(BAD);
        }
        if (word == NONE) {
            shelves[s].clear();
        } else {
            shelves[s].becomeWord(word);
        }
        return 1;
    }

    public int says(int s, int kind) {
        if (!isShelf(s) || !within(kind, 0, KINDS - 1)) {
            return refuse(BAD);
        }
        Shelf shelf = shelves[s];
        if (shelf.hasRow()) {
            return refuse(OTHER);
        }
        if (!shelf.hasWord()) {
            return refuse(NOTHING);
        }
        if (!isUnder(now.kinds[shelf.shownWord], kind)) {
            return refuse(OTHER);
        }
        return wordTakenFor(shelf.shownWord, kind);
    }

    // ---- what there is

    public int columns(int n) {
        if (!within(n, 1, MOST_COLUMNS)) {
            return refuse(BAD);
        }
        if (now.wordCount > 0) {
            return refuse(STUCK);
        }
        int ahead = now.columnCount;
        now.columnCount = n;
        return ahead;
    }

    public int word(int kind, int letter, int column, int seconds, int a) {
        if (!within(kind, 0, KINDS - 1) || !isLetter(letter) || !now.isColumn(column)
                || !within(seconds, 1, MOST_SECONDS) || !within(a, 0, MOST_EXTRA)) {
            return refuse(BAD);
        }
        if (!now.hasRoomForWord()) {
            return refuse(FULL);
        }
        return now.addWord(kind, letter, column, seconds, a);
    }

    public int person() {
        return now.hasRoomForPerson() ? now.addPerson() : refuse(FULL);
    }

    public int knows(int person, int word, boolean is) {
        if (!now.isPerson(person) || !now.isWord(word)) {
            return refuse(BAD);
        }
        if (now.isKnown(person, word) == is) {
            return 0;
        }
        now.knowers[word] ^= 1 << person;
        return 1;
    }

    public int ask(int what, int v) {
        if (!within(what, 0, ASKED - 1) || !within(v, ASK_LEAST[what], ASK_MOST[what])) {
            return refuse(BAD);
        }
        int ahead = now.asked[what];
        now.asked[what] = v;
        return ahead;
    }

    public int sheet(int s, int n, int person) {
        int trouble = troubleOfFitting(s, n, person);
        if (trouble != FINE) {
            return refuse(trouble);
        }
        now.putSheet(person, shelves[s].elements, n);
        return n;
    }

    public int feed(int letter) {
        if (!within(letter, 0, 255)) {
            return refuse(BAD);
        }
        return reader.take(letter) ? reader.size : refuse(FULL);
    }

    public int wipe() {
        int ahead = reader.size;
        reader.size = 0;
        return ahead;
    }

    public int evening() {
        thought.become(now);
        boolean isEvening = reader.read(thought);
        reader.size = 0;
        if (!isEvening) {
            refuse(BAD);
            return -20 - reader.start;
        }
        now.become(thought);
        return reader.statements;
    }

    public int wordOf(int word, int what) {
        if (!now.isWord(word)) {
            return refuse(BAD);
        }
        switch (what) {
            case 0: return now.kinds[word];
            case 1: return now.letters[word];
            case 2: return now.columnOf[word];
            case 3: return now.seconds[word];
            case 4: return now.extras[word];
            case 5: return now.knowers[word];
            case 6: return now.isUsed[word] ? 1 : 0;
            case 7: return now.cost(word);
            default: return refuse(BAD);
        }
    }

    public int sheetOf(int person, int i) {
        if (!now.isPerson(person) || i < NONE) {
            return refuse(BAD);
        }
        if (i == NONE) {
            return now.sizes[person];
        }
        return i < now.sizes[person] ? now.sheets[person][i] : refuse(STUCK);
    }

    public int score(int person) {
        return now.isPerson(person) ? now.scores[person] : refuse(BAD);
    }

    // ---- a round

    public int call() {
        if (now.peopleCount == 0) {
            return refuse(STUCK);
        }
        outcome.reckon(now);
        return outcome.callSecond;
    }

    public int caller() {
        outcome.reckon(now);
        return outcome.callerNumber;
    }

    public int written(int person, int second) {
        if (!now.isPerson(person) || !within(second, 0, MOST_BELL)) {
            return refuse(BAD);
        }
        return now.writtenBy(person, second);
    }

    public int kept(int person) {
        if (!now.isPerson(person)) {
            return refuse(BAD);
        }
        outcome.reckon(now);
        return outcome.keptWords[person];
    }

    public int points(int person, int column) {
        if (!now.isPerson(person) || (column != NONE && !now.isColumn(column))) {
            return refuse(BAD);
        }
        outcome.reckon(now);
        return outcome.pointsIn(now, person, column);
    }

    public int winner() {
        if (now.peopleCount == 0) {
            return refuse(STUCK);
        }
        outcome.reckon(now);
        return outcome.leaderBesides(now, NONE);
    }

    // ---- what comes of it

    public int best(int person, int what) {
        if (!now.isPerson(person) || !within(what, 0, 2)) {
            return refuse(BAD);
        }
        bestSheet.find(now, person);
        if (what == 0) {
            return bestSheet.points;
        }
        return what == 1 ? bestSheet.bits : bestSheet.callSecond;
    }

    public int order(int person, int i) {
        if (!now.isPerson(person) || i < NONE) {
            return refuse(BAD);
        }
        if (i >= now.sizes[person]) {
            return refuse(STUCK);
        }
        int most = findOrder(person);
        return i == NONE ? most : orderFound[i];
    }

    public int swap(int person, int i, int j) {
        if (!now.isPerson(person) || !within(i, 0, now.sizes[person] - 1) || !within(j, 0, now.sizes[person] - 1)) {
            return refuse(BAD);
        }
        exchange(now.sheets[person], i, j);
        return now.sheets[person][i];
    }

    public int bestWord(int person, int column) {
        if (!now.isPerson(person) || !now.isColumn(column)) {
            return refuse(BAD);
        }
        thought.become(now);
        int place = thought.openPlace(person, column);
        int found = NONE;
        int most = NONE;
        for (int w = 0; w < now.wordCount; w++) {
            if (now.columnOf[w] == column && now.canStand(person, w)) {
                thought.sheets[person][place] = w;
                int points = pointsInThought(person);
                if (points > most) {
                    most = points;
                    found = w;
                }
            }
        }
        return found;
    }

    public int learn(int person, int what) {
        if (!now.isPerson(person) || !within(what, 0, 1)) {
            return refuse(BAD);
        }
        thought.become(now);
        int found = NONE;
        int most = NONE;
        for (int w = 0; w < now.wordCount; w++) {
            if (now.letters[w] == now.asked[THE_LETTER] && !now.isKnown(person, w)) {
                thought.knowers[w] |= 1 << person;
                bestSheet.find(thought, person);
                thought.knowers[w] = now.knowers[w];
                if (bestSheet.points > most) {
                    most = bestSheet.points;
                    found = w;
                }
            }
        }
        if (what == 0) {
            return found;
        }
        bestSheet.find(now, person);
        return Math.max(0, most - bestSheet.points);
    }

    public int lonely(int letter) {
        if (!isLetter(letter)) {
            return refuse(BAD);
        }
        int bits = 0;
        for (int w = 0; w < now.wordCount; w++) {
            if (now.letters[w] == letter && Integer.bitCount(now.knowers[w]) == 1) {
                bits |= 1 << w;
            }
        }
        return bits;
    }

    public int fills(int person, int letter) {
        if (!now.isPerson(person) || !isLetter(letter)) {
            return refuse(BAD);
        }
        return now.columnsFilled(person, letter);
    }

    public int gains(int letter) {
        if (!isLetter(letter)) {
            return refuse(BAD);
        }
        if (now.peopleCount == 0) {
            return refuse(STUCK);
        }
        int found = 0;
        for (int p = 1; p < now.peopleCount; p++) {
            if (now.columnsFilled(p, letter) > now.columnsFilled(found, letter)) {
                found = p;
            }
        }
        return found;
    }

    public int silent(int letter, int rate, int second) {
        if (!isLetter(letter) || !within(rate, 1, LETTERS) || !within(second, 0, MOST_SILENT)) {
            return refuse(BAD);
        }
        return letterAt(letter, rate, second);
    }

    public int stop(int letter, int rate, int person) {
        if (!isLetter(letter) || !within(rate, 1, LETTERS) || !now.isPerson(person)) {
            return refuse(BAD);
        }
        for (int second = 0; second < LETTERS; second++) {
            if (now.fillsMostAlone(person, letterAt(letter, rate, second))) {
                return second;
            }
        }
        return NONE;
    }

    public int judge(int s, int n, int person) {
        int trouble = troubleOfTold(s, n, person);
        return trouble == FINE ? now.firstWrong(person, shelves[s].elements, n) : refuse(trouble);
    }

    public int takes(int s, int n, int person) {
        int trouble = troubleOfFitting(s, n, person);
        if (trouble != FINE) {
            return refuse(trouble);
        }
        int sum = 0;
        for (int i = 0; i < n; i++) {
            sum += now.cost((int) shelves[s].elements[i]);
        }
        return sum;
    }

    public int keptBy(int word) {
        if (!now.isWord(word)) {
            return refuse(BAD);
        }
        outcome.reckon(now);
        return outcome.keepersOf(now, word);
    }

    public int rival(int person) {
        if (!now.isPerson(person)) {
            return refuse(BAD);
        }
        outcome.reckon(now);
        return outcome.leaderBesides(now, person);
    }

    public int needFor(int person) {
        if (!now.isPerson(person)) {
            return refuse(BAD);
        }
        thought.become(now);
        int found = NONE;
        int most = 0;
        for (int need = ASK_LEAST[NEED]; need <= ASK_MOST[NEED]; need++) {
            thought.asked[NEED] = need;
            int lead = leadInThought(person);
            if (found == NONE || lead > most) {
                most = lead;
                found = need;
            }
        }
        return found;
    }

    public int late(int person) {
        if (!now.isPerson(person)) {
            return refuse(BAD);
        }
        outcome.reckon(now);
        return Math.max(0, now.wholeSheetTakes(person) - outcome.callSecond);
    }

    public int clashes() {
        outcome.reckon(now);
        int clashing = 0;
        for (int w = 0; w < now.wordCount; w++) {
            if (Integer.bitCount(outcome.keepersOf(now, w)) > 1) {
                clashing |= 1 << now.columnOf[w];
            }
        }
        return Integer.bitCount(clashing);
    }

    public int empty() {
        outcome.reckon(now);
        int found = 0;
        for (int c = 1; c < now.columnCount; c++) {
            if (outcome.howManyKeptIn(now, c) < outcome.howManyKeptIn(now, found)) {
                found = c;
            }
        }
        return found;
    }

    // ---- in truth

    public int takeBest(int person) {
        return now.isPerson(person) ? putBestSheet(person) : refuse(BAD);
    }

    public int round() {
        return now.peopleCount == 0 ? refuse(STUCK) : endRound();
    }

    public int rounds(int n) {
        if (!within(n, 1, MOST_ROUNDS)) {
            return refuse(BAD);
        }
        if (now.peopleCount == 0) {
            return refuse(STUCK);
        }
        for (int k = 0; k < n; k++) {
            now.asked[THE_LETTER] = now.drawLetter();
            for (int p = 0; p < now.peopleCount; p++) {
                putBestSheet(p);
            }
            endRound();
        }
        return now.firstByScore();
    }

    public int again() {
        int ahead = now.usedCount();
        for (int w = 0; w < now.wordCount; w++) {
            now.isUsed[w] = false;
        }
        for (int p = 0; p < now.peopleCount; p++) {
            now.scores[p] = 0;
            now.sizes[p] = 0;
        }
        return ahead;
    }

    public int seed(int v) {
        int ahead = now.seedNow;
        now.seedNow = v;
        return ahead;
    }

    public int image() {
        imageOfAll.become(now);
        hasImage = true;
        return 1;
    }

    public int back() {
        if (!hasImage) {
            return refuse(STUCK);
        }
        now.become(imageOfAll);
        for (int s = 0; s < MOST_SHELVES; s++) {
            if (shelves[s].hasWord() && !now.isWord(shelves[s].shownWord)) {
                shelves[s].clear();
            }
        }
        return 1;
    }

    public int status(int what) {
        if (within(what, STATUS_ASKED, STATUS_ASKED + ASKED - 1)) {
            return now.asked[what - STATUS_ASKED];
        }
        if (within(what, STATUS_REFUSED, STATUS_REFUSED + REFUSALS - 1)) {
            return refused[what - STATUS_REFUSED];
        }
        switch (what) {
            case 0: return now.columnCount;
            case 1: return now.wordCount;
            case 2: return now.peopleCount;
            case 11: return reader.size;
            case 17: return now.seedNow;
            case 18: return shelvesInUse();
            case 19: return now.usedCount();
            default: return NONE;
        }
    }

    // ---- what the calls share

    private static boolean within(int v, int least, int most) {
        return v >= least && v <= most;
    }

    private static boolean isShelf(int s) {
        return within(s, 0, MOST_SHELVES - 1);
    }

    private static boolean isLetter(int letter) {
        return within(letter, 0, LETTERS - 1);
    }

    private static boolean isUnder(int kind, int above) {
        int at = kind;
        for (int step = 0; step < KINDS && within(at, 0, KINDS - 1); step++) {
            if (at == above) {
                return true;
            }
            at = UNDER[at];
        }
        return false;
    }

    private static int letterAt(int letter, int rate, int second) {
        return (letter + rate * second) % LETTERS;
    }

    private static void exchange(int[] line, int i, int j) {
        int held = line[i];
        line[i] = line[j];
        line[j] = held;
    }

    private int refuse(int why) {
        int place = BAD - why;
        if (within(place, 0, REFUSALS - 1)) {
            refused[place]++;
        }
        return why;
    }

    private int troubleOfRow(int s) {
        if (!isShelf(s)) {
            return BAD;
        }
        if (shelves[s].hasWord()) {
            return OTHER;
        }
        return shelves[s].hasRow() ? FINE : NOTHING;
    }

    private int troubleOfPair(int p, int q) {
        if (!isShelf(p) || !isShelf(q)) {
            return BAD;
        }
        Shelf from = shelves[p];
        Shelf to = shelves[q];
        if (from.hasWord() || to.hasWord()) {
            return OTHER;
        }
        if (!from.hasRow() || !to.hasRow()) {
            return NOTHING;
        }
        return from.content == to.content ? FINE : OTHER;
    }

    private int troubleOfTold(int s, int n, int person) {
        if (!isShelf(s) || !within(n, 0, MOST_ON_SHEET) || !now.isPerson(person)) {
            return BAD;
        }
        int trouble = troubleOfRow(s);
        if (trouble != FINE) {
            return trouble;
        }
        return n <= shelves[s].size ? FINE : BAD;
    }

    private int troubleOfFitting(int s, int n, int person) {
        int trouble = troubleOfTold(s, n, person);
        if (trouble != FINE) {
            return trouble;
        }
        return now.firstWrong(person, shelves[s].elements, n) == NONE ? FINE : STUCK;
    }

    private int wordTakenFor(int word, int kind) {
        switch (kind) {
            case COMMON: return now.sheetsWith(word);
            case RARE: return Integer.bitCount(now.knowers[word]);
            case AVOIDED: return now.sheetsWith(word) == 1 ? 1 : 0;
            case INVENTED: return now.knowersMissing(word);
            case LONG: return now.extras[word];
            default: return now.cost(word);
        }
    }

    private int shelvesInUse() {
        int count = 0;
        for (int s = 0; s < MOST_SHELVES; s++) {
            if (shelves[s].hasRow() || shelves[s].hasWord()) {
                count++;
            }
        }
        return count;
    }

    private int pointsInThought(int person) {
        outcome.reckon(thought);
        return outcome.pointsIn(thought, person, NONE);
    }

    private int leadInThought(int person) {
        int own = pointsInThought(person);
        int other = outcome.leaderBesides(thought, person);
        return other == NONE ? own : own - outcome.pointsIn(thought, other, NONE);
    }

    /** Leaves the best order in orderFound and answers its points. */
    private int findOrder(int person) {
        thought.become(now);
        int[] line = thought.sheets[person];
        int n = thought.sizes[person];
        sortUp(line, n);
        int most = NONE;
        for (int k = 0; k < MOST_ORDERS; k++) {
            int points = pointsInThought(person);
            if (points > most) {
                most = points;
                System.arraycopy(line, 0, orderFound, 0, n);
            }
            if (!stepOrder(line, n)) {
                break;
            }
        }
        return most;
    }

    private static void sortUp(int[] line, int n) {
        for (int i = 1; i < n; i++) {
            for (int j = i; j > 0 && line[j - 1] > line[j]; j--) {
                exchange(line, j - 1, j);
            }
        }
    }

    /** The next order by rows of numbers; false: there is none. */
    private static boolean stepOrder(int[] line, int n) {
        int i = n - 2;
        while (i >= 0 && line[i] >= line[i + 1]) {
            i--;
        }
        if (i < 0) {
            return false;
        }
        int j = n - 1;
        while (j > i && line[j] <= line[i]) {
            j--;
        }
        exchange(line, i, j);
        for (int low = i + 1, high = n - 1; low < high; low++, high--) {
            exchange(line, low, high);
        }
        return true;
    }

    private int putBestSheet(int person) {
        bestSheet.find(now, person);
        bestSheet.writeTo(now, person);
        return bestSheet.points;
    }

    /** All points are told before a word is used: a barred word would count for nothing. */
    private int endRound() {
        outcome.reckon(now);
        for (int p = 0; p < now.peopleCount; p++) {
            now.scores[p] += outcome.pointsIn(now, p, NONE);
        }
        for (int w = 0; w < now.wordCount; w++) {
            if (outcome.keepersOf(now, w) != 0) {
                now.isUsed[w] = true;
            }
        }
        for (int p = 0; p < now.peopleCount; p++) {
            now.sizes[p] = 0;
        }
        return outcome.callerNumber;
    }

    /** What a shelf holds: NONE nothing, the sort of a row, or A_WORD. */
    private static final class Shelf {
        int content = NONE;
        int size = 0;
        int shownWord = NONE;
        final long[] elements = new long[MOST_ELEMENTS];

        boolean hasRow() {
            return within(content, 0, SORTS - 1);
        }

        boolean hasWord() {
            return content == A_WORD;
        }

        void clear() {
            content = NONE;
            size = 0;
            shownWord = NONE;
        }

        void becomeWord(int word) {
            clear();
            content = A_WORD;
            shownWord = word;
        }

        void becomeRow(int sort, int n) {
            clear();
            content = sort;
            size = n;
            for (int i = 0; i < MOST_ELEMENTS; i++) {
                elements[i] = 0;
            }
        }

        void put(int i, long v) {
            elements[i] = lowestBits(v);
        }

        private long lowestBits(long v) {
            switch (content) {
                case BYTES: return (byte) v;
                case SHORTS: return (short) v;
                case INTS: return (int) v;
                case LONGS: return v;
                default: return v != 0 ? 1 : 0;
            }
        }
    }

    /** All that an image keeps: columns, words, people, what was asked for, the seed. */
    private static final class Evening {
        int columnCount = 4;
        int wordCount = 0;
        int peopleCount = 0;
        int seedNow = 1;
        final int[] asked = ASK_FIRST.clone();
        final int[] kinds = new int[MOST_WORDS];
        final int[] letters = new int[MOST_WORDS];
        final int[] columnOf = new int[MOST_WORDS];
        final int[] seconds = new int[MOST_WORDS];
        final int[] extras = new int[MOST_WORDS];
        final int[] knowers = new int[MOST_WORDS];
        final boolean[] isUsed = new boolean[MOST_WORDS];
        final int[][] sheets = new int[MOST_PEOPLE][MOST_ON_SHEET];
        final int[] sizes = new int[MOST_PEOPLE];
        final int[] scores = new int[MOST_PEOPLE];

        void become(Evening other) {
            columnCount = other.columnCount;
            wordCount = other.wordCount;
            peopleCount = other.peopleCount;
            seedNow = other.seedNow;
            System.arraycopy(other.asked, 0, asked, 0, ASKED);
            System.arraycopy(other.kinds, 0, kinds, 0, MOST_WORDS);
            System.arraycopy(other.letters, 0, letters, 0, MOST_WORDS);
            System.arraycopy(other.columnOf, 0, columnOf, 0, MOST_WORDS);
            System.arraycopy(other.seconds, 0, seconds, 0, MOST_WORDS);
            System.arraycopy(other.extras, 0, extras, 0, MOST_WORDS);
            System.arraycopy(other.knowers, 0, knowers, 0, MOST_WORDS);
            System.arraycopy(other.sizes, 0, sizes, 0, MOST_PEOPLE);
            System.arraycopy(other.scores, 0, scores, 0, MOST_PEOPLE);
            for (int w = 0; w < MOST_WORDS; w++) {
                isUsed[w] = other.isUsed[w];
            }
            for (int p = 0; p < MOST_PEOPLE; p++) {
                System.arraycopy(other.sheets[p], 0, sheets[p], 0, MOST_ON_SHEET);
            }
        }

        boolean isWord(int word) {
            return within(word, 0, wordCount - 1);
        }

        boolean isPerson(int person) {
            return within(person, 0, peopleCount - 1);
        }

        boolean isColumn(int column) {
            return within(column, 0, columnCount - 1);
        }

        boolean hasRoomForWord() {
            return wordCount < MOST_WORDS;
        }

        boolean hasRoomForPerson() {
            return peopleCount < MOST_PEOPLE;
        }

        /** Only behind hasRoomForWord. */
        int addWord(int kind, int letter, int column, int secondsOfIt, int extra) {
            int w = wordCount;
            kinds[w] = kind;
            letters[w] = letter;
            columnOf[w] = column;
            seconds[w] = secondsOfIt;
            extras[w] = extra;
            knowers[w] = 0;
            isUsed[w] = false;
            wordCount++;
            return w;
        }

        /** Only behind hasRoomForPerson. */
        int addPerson() {
            int p = peopleCount;
            sizes[p] = 0;
            scores[p] = 0;
            peopleCount++;
            return p;
        }

        int cost(int word) {
            int own = seconds[word];
            switch (kinds[word]) {
                case COMMON:
                case AVOIDED: return Math.max(1, own / 2);
                case RARE: return own + extras[word];
                case LONG: return own + extras[word] + 5;
                default: return own;
            }
        }

        boolean isKnown(int person, int word) {
            return (knowers[word] >> person & 1) == 1;
        }

        boolean isBarred(int word) {
            return asked[BAR] == 1 && isUsed[word];
        }

        /** Whether the word could be on a sheet of the person that has no other of its column. */
        boolean canStand(int person, int word) {
            return letters[word] == asked[THE_LETTER] && columnOf[word] < columnCount
                    && isKnown(person, word) && !isBarred(word);
        }

        /** The place of the first number that can't be on a sheet with those ahead of it. */
        int firstWrong(int person, long[] told, int n) {
            int taken = 0;
            for (int i = 0; i < n; i++) {
                if (told[i] < 0 || told[i] >= wordCount) {
                    return i;
                }
                int w = (int) told[i];
                if (!canStand(person, w) || (taken >> columnOf[w] & 1) == 1) {
                    return i;
                }
                taken |= 1 << columnOf[w];
            }
            return NONE;
        }

        /** Only for numbers that firstWrong finds nothing wrong with. */
        void putSheet(int person, long[] told, int n) {
            for (int i = 0; i < n; i++) {
                sheets[person][i] = (int) told[i];
            }
            sizes[person] = n;
        }

        /** The place of the column's word on the sheet, else a new one behind all. */
        int openPlace(int person, int column) {
            int n = sizes[person];
            for (int i = 0; i < n; i++) {
                if (columnOf[sheets[person][i]] == column) {
                    return i;
                }
            }
            if (n >= MOST_ON_SHEET) {
                return n - 1;
            }
            // Until a word is put there the place must not tell an old one's number.
            sheets[person][n] = 0;
            sizes[person] = n + 1;
            return n;
        }

        int sheetsWith(int word) {
            int count = 0;
            for (int p = 0; p < peopleCount; p++) {
                for (int i = 0; i < sizes[p]; i++) {
                    if (sheets[p][i] == word) {
                        count++;
                    }
                }
            }
            return count;
        }

        int knowersMissing(int word) {
            return Math.max(0, (peopleCount + 1) / 2 - Integer.bitCount(knowers[word]));
        }

        boolean passesVote(int word) {
            return asked[VOTE] == 0 || kinds[word] != INVENTED
                    || 2 * Integer.bitCount(knowers[word]) >= peopleCount;
        }

        int writtenBy(int person, int second) {
            int bits = 0;
            int time = 0;
            for (int i = 0; i < sizes[person]; i++) {
                int w = sheets[person][i];
                if (canStand(person, w)) {
                    time += cost(w);
                    bits |= time <= second ? 1 << w : 0;
                }
            }
            return bits;
        }

        int wholeSheetTakes(int person) {
            int time = 0;
            for (int i = 0; i < sizes[person]; i++) {
                time += canStand(person, sheets[person][i]) ? cost(sheets[person][i]) : 0;
            }
            return time;
        }

        /** The second by which the person has written enough words to call. */
        int readyAt(int person) {
            int time = 0;
            int count = 0;
            for (int i = 0; i < sizes[person]; i++) {
                int w = sheets[person][i];
                if (canStand(person, w)) {
                    time += cost(w);
                    count++;
                    if (count == asked[NEED]) {
                        return time;
                    }
                }
            }
            return NEVER;
        }

        int columnsFilled(int person, int letter) {
            int filled = 0;
            for (int w = 0; w < wordCount; w++) {
                if (letters[w] == letter && isKnown(person, w) && !isBarred(w)) {
                    filled |= 1 << columnOf[w];
                }
            }
            return Integer.bitCount(filled);
        }

        boolean fillsMostAlone(int person, int letter) {
            int own = columnsFilled(person, letter);
            for (int p = 0; p < peopleCount; p++) {
                if (p != person && columnsFilled(p, letter) >= own) {
                    return false;
                }
            }
            return true;
        }

        int drawLetter() {
            seedNow = seedNow * 1103515245 + 12345;
            return (seedNow >>> 16) % LETTERS;
        }

        int firstByScore() {
            int found = 0;
            for (int p = 1; p < peopleCount; p++) {
                if (scores[p] > scores[found]) {
                    found = p;
                }
            }
            return found;
        }

        int usedCount() {
            int count = 0;
            for (int w = 0; w < wordCount; w++) {
                count += isUsed[w] ? 1 : 0;
            }
            return count;
        }
    }

    /** What a round would come to, with the sheets of an evening as they are. */
    private static final class Outcome {
        int callSecond = 0;
        int callerNumber = NONE;
        final int[] keptWords = new int[MOST_PEOPLE];
        final int[] keptColumns = new int[MOST_PEOPLE];

        void reckon(Evening e) {
            callSecond = e.asked[BELL];
            callerNumber = NONE;
            for (int p = 0; p < e.peopleCount; p++) {
                int ready = e.readyAt(p);
                // Another who is ready at the same second doesn't come ahead of the first one.
                if (ready < callSecond || (ready == callSecond && callerNumber == NONE)) {
                    callSecond = ready;
                    callerNumber = p;
                }
            }
            for (int p = 0; p < e.peopleCount; p++) {
                keep(e, p, e.writtenBy(p, callSecond));
            }
        }

        private void keep(Evening e, int person, int writtenWords) {
            keptWords[person] = 0;
            keptColumns[person] = 0;
            for (int w = 0; w < e.wordCount; w++) {
                if ((writtenWords >> w & 1) == 1 && e.passesVote(w)) {
                    keptWords[person] |= 1 << w;
                    keptColumns[person] |= 1 << e.columnOf[w];
                }
            }
        }

        int keepersOf(Evening e, int word) {
            int bits = 0;
            for (int p = 0; p < e.peopleCount; p++) {
                bits |= (keptWords[p] >> word & 1) << p;
            }
            return bits;
        }

        int howManyKeptIn(Evening e, int column) {
            int count = 0;
            for (int p = 0; p < e.peopleCount; p++) {
                count += keptColumns[p] >> column & 1;
            }
            return count;
        }

        private int worth(Evening e, int word) {
            if (howManyKeptIn(e, e.columnOf[word]) <= 1) {
                return e.asked[ALONE];
            }
            return Integer.bitCount(keepersOf(e, word)) <= 1 ? e.asked[OWN] : e.asked[ALIKE];
        }

        /** In a column, or in all (NONE). */
        int pointsIn(Evening e, int person, int column) {
            int sum = 0;
            for (int i = 0; i < e.sizes[person]; i++) {
                int w = e.sheets[person][i];
                if ((keptWords[person] >> w & 1) == 1 && (column == NONE || e.columnOf[w] == column)) {
                    sum += worth(e, w);
                }
            }
            return sum;
        }

        /** Who of all but one has most points; NONE: there is nobody. */
        int leaderBesides(Evening e, int person) {
            int found = NONE;
            int most = NONE;
            for (int p = 0; p < e.peopleCount; p++) {
                int points = p == person ? NONE : pointsIn(e, p, NONE);
                if (points > most) {
                    most = points;
                    found = p;
                }
            }
            return found;
        }
    }

    /** The search for a person's best sheet against the others' sheets as they are. */
    private static final class BestSheet {
        int points = 0;
        int bits = 0;
        int callSecond = 0;

        private int need = 1;
        private int limit = 0;
        private int alone = 0;
        private int own = 0;
        private int alike = 0;
        private int count = 0;
        private final int[] line = new int[MOST_WORDS];
        private final int[] costs = new int[MOST_WORDS];
        private final int[] columnBits = new int[MOST_WORDS];
        private final boolean[] counts = new boolean[MOST_WORDS];
        private final int[] chosen = new int[MOST_ON_SHEET];
        private int othersCount = 0;
        private final int[] othersWords = new int[MOST_PEOPLE * MOST_ON_SHEET];
        private final int[] othersColumns = new int[MOST_PEOPLE * MOST_ON_SHEET];
        private final int[] othersSeconds = new int[MOST_PEOPLE * MOST_ON_SHEET];

        void find(Evening e, int person) {
            need = e.asked[NEED];
            alone = e.asked[ALONE];
            own = e.asked[OWN];
            alike = e.asked[ALIKE];
            lineUp(e, person);
            watchOthers(e, person);
            points = 0;
            bits = 0;
            callSecond = limit;
            extend(this, 0, 0, 0, 0, 0);
        }

        /** All words that the person could take, in the order in which they'd be written. */
        private void lineUp(Evening e, int person) {
            count = 0;
            for (int w = 0; w < e.wordCount; w++) {
                if (e.canStand(person, w)) {
                    int cost = e.cost(w);
                    int i = count;
                    while (i > 0 && costs[i - 1] > cost) {
                        line[i] = line[i - 1];
                        costs[i] = costs[i - 1];
                        i--;
                    }
                    line[i] = w;
                    costs[i] = cost;
                    count++;
                }
            }
            for (int i = 0; i < count; i++) {
                columnBits[i] = 1 << e.columnOf[line[i]];
                counts[i] = e.passesVote(line[i]);
            }
        }

        /** Which words the others could keep and from when on, and when one of them would call. */
        private void watchOthers(Evening e, int person) {
            limit = e.asked[BELL];
            othersCount = 0;
            for (int p = 0; p < e.peopleCount; p++) {
                if (p != person) {
                    limit = Math.min(limit, e.readyAt(p));
                    watch(e, p);
                }
            }
        }

        private void watch(Evening e, int other) {
            int time = 0;
            for (int i = 0; i < e.sizes[other]; i++) {
                int w = e.sheets[other][i];
                if (e.canStand(other, w)) {
                    time += e.cost(w);
                    if (e.passesVote(w) && othersCount < othersWords.length) {
                        othersWords[othersCount] = 1 << w;
                        othersColumns[othersCount] = 1 << e.columnOf[w];
                        othersSeconds[othersCount] = time;
                        othersCount++;
                    }
                }
            }
        }

        /**
         * Tries every word that can come next. A word that isn't written by the call, or comes behind
         * the last one needed, adds no points and makes the bits greater: such sets are left out.
         */
        private static void extend(BestSheet b, int depth, int from, int time, int columns, int set) {
            if (depth >= b.need || depth >= MOST_ON_SHEET) {
                return;
            }
            for (int i = from; i < b.count; i++) {
                int then = time + b.costs[i];
                if (then > b.limit) {
                    return;
                }
                if ((columns & b.columnBits[i]) == 0) {
                    int grown = set | 1 << b.line[i];
                    b.chosen[depth] = i;
                    b.weigh(depth + 1, then, grown);
                    extend(b, depth + 1, i + 1, then, columns | b.columnBits[i], grown);
                }
            }
        }

        private void weigh(int size, int time, int set) {
            int second = size == need ? time : limit;
            int sum = pointsAt(size, second);
            if (sum > points || (sum == points && set < bits)) {
                points = sum;
                bits = set;
                callSecond = second;
            }
        }

        private int pointsAt(int size, int second) {
            int keptWords = 0;
            int keptColumns = 0;
            for (int k = 0; k < othersCount; k++) {
                if (othersSeconds[k] <= second) {
                    keptWords |= othersWords[k];
                    keptColumns |= othersColumns[k];
                }
            }
            int sum = 0;
            for (int k = 0; k < size; k++) {
                int i = chosen[k];
                if (counts[i]) {
                    boolean isAlone = (keptColumns & columnBits[i]) == 0;
                    boolean isOwn = (keptWords >> line[i] & 1) == 0;
                    sum += isAlone ? alone : isOwn ? own : alike;
                }
            }
            return sum;
        }

        void writeTo(Evening e, int person) {
            int n = 0;
            for (int i = 0; i < count && n < MOST_ON_SHEET; i++) {
                if ((bits >> line[i] & 1) == 1) {
                    e.sheets[person][n] = line[i];
                    n++;
                }
            }
            e.sizes[person] = n;
        }
    }

    /** The tape, and how an evening is read from it. */
    private static final class Reader {
        private static final int END = 0;
        private static final int NAME = 1;
        private static final int NUMBER = 2;
        private static final int SIGN = 3;
        private static final int STRANGE = 4;
        private static final int MOST_DIGITS = 3;

        int size = 0;
        int statements = 0;
        /** Where the token at hand begins: the fault, if it can't stand there. */
        int start = 0;
        private int behind = 0;
        private int token = END;
        private final int[] tape = new int[TAPE_ROOM];
        private final int[] numbers = new int[5];
        private final long[] told = new long[MOST_ON_SHEET];
        private int numberCount = 0;

        boolean take(int letter) {
            if (size >= TAPE_ROOM) {
                return false;
            }
            tape[size] = letter;
            size++;
            return true;
        }

        /** Changes the evening as far as the tape is right. */
        boolean read(Evening e) {
            statements = 0;
            behind = 0;
            for (int k = 0; k <= TAPE_ROOM; k++) {
                step();
                if (!readStatement(e)) {
                    return false;
                }
                statements++;
                if (token != SIGN) {
                    return token == END;
                }
            }
            return false;
        }

        /** The next token comes to hand. */
        private void step() {
            start = behind;
            while (start < size && tape[start] == ' ') {
                start++;
            }
            if (start >= size) {
                token = END;
                behind = size;
                return;
            }
            token = sortOf(tape[start]);
            behind = start + 1;
            if (token == NAME || token == NUMBER) {
                while (behind < size && sortOf(tape[behind]) == token) {
                    behind++;
                }
            }
        }

        private static int sortOf(int letter) {
            if (within(letter, 'a', 'z')) {
                return NAME;
            }
            if (within(letter, '0', '9')) {
                return NUMBER;
            }
            return letter == ';' ? SIGN : STRANGE;
        }

        private boolean isNamed(String name) {
            if (token != NAME || behind - start != name.length()) {
                return false;
            }
            for (int i = 0; i < name.length(); i++) {
                if (tape[start + i] != name.charAt(i)) {
                    return false;
                }
            }
            return true;
        }

        private boolean readStatement(Evening e) {
            numberCount = 0;
            if (isNamed("columns")) {
                return e.wordCount == 0 && readColumns(e);
            }
            if (isNamed("word")) {
                return e.hasRoomForWord() && readWord(e);
            }
            if (isNamed("person")) {
                return e.hasRoomForPerson() && readPerson(e);
            }
            if (isNamed("knows")) {
                return readKnows(e);
            }
            if (isNamed("letter")) {
                return readAsked(e, THE_LETTER, 1);
            }
            if (isNamed("need")) {
                return readAsked(e, NEED, 1);
            }
            if (isNamed("bell")) {
                return readAsked(e, BELL, 1);
            }
            if (isNamed("points")) {
                return readAsked(e, ALONE, 3);
            }
            return isNamed("sheet") && readSheet(e);
        }

        private boolean readColumns(Evening e) {
            step();
            if (!readNumber(1, MOST_COLUMNS)) {
                return false;
            }
            e.columnCount = numbers[0];
            return true;
        }

        private boolean readWord(Evening e) {
            step();
            if (!readNumber(0, KINDS - 1) || !readNumber(0, LETTERS - 1) || !readNumber(0, e.columnCount - 1)
                    || !readNumber(1, MOST_SECONDS) || !readNumber(0, MOST_EXTRA)) {
                return false;
            }
            e.addWord(numbers[0], numbers[1], numbers[2], numbers[3], numbers[4]);
            return true;
        }

        private boolean readPerson(Evening e) {
            step();
            e.addPerson();
            return true;
        }

        private boolean readKnows(Evening e) {
            step();
            if (!readNumber(0, e.peopleCount - 1) || !readNumber(0, e.wordCount - 1)) {
                return false;
            }
            e.knowers[numbers[1]] |= 1 << numbers[0];
            return true;
        }

        /** So many of what can be asked for, one after the other. */
        private boolean readAsked(Evening e, int what, int n) {
            step();
            for (int i = 0; i < n; i++) {
                if (!readNumber(ASK_LEAST[what + i], ASK_MOST[what + i])) {
                    return false;
                }
                e.asked[what + i] = numbers[i];
            }
            return true;
        }

        private boolean readSheet(Evening e) {
            step();
            if (!readNumber(0, e.peopleCount - 1)) {
                return false;
            }
            int person = numbers[0];
            int n = 0;
            while (n < MOST_ON_SHEET && token == NUMBER) {
                told[n] = value();
                if (e.firstWrong(person, told, n + 1) != NONE) {
                    return false;
                }
                n++;
                step();
            }
            if (token == NUMBER) {
                return false;
            }
            e.putSheet(person, told, n);
            return true;
        }

        private boolean readNumber(int least, int most) {
            if (token != NUMBER || numberCount >= numbers.length) {
                return false;
            }
            int v = value();
            if (v == NONE || !within(v, least, most)) {
                return false;
            }
            numbers[numberCount] = v;
            numberCount++;
            step();
            return true;
        }

        /** Of the number at hand; NONE: it has too many digits. */
        private int value() {
            if (behind - start > MOST_DIGITS) {
                return NONE;
            }
            int v = 0;
            for (int i = start; i < behind; i++) {
                v = v * 10 + tape[i] - '0';
            }
            return v;
        }
    }
}
