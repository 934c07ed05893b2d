/** The document's public face: its methods, as "The public face" and each promise tell them. */
final class Face {
    static final String[] METHODS = {
        "int row(int s, int sort, int n)",
        "int set(int s, int i, long v)",
        "int copy(int p, int q, int i, int j, int n)",
        "long element(int s, int i)",
        "int holds(int s)",
        "int show(int s, int word)",
        "int says(int s, int kind)",
        "int columns(int n)",
        "int word(int kind, int letter, int column, int seconds, int a)",
        "int person()",
        "int knows(int person, int word, boolean is)",
        "int ask(int what, int v)",
        "int sheet(int s, int n, int person)",
        "int feed(int letter)",
        "int wipe()",
        "int evening()",
        "int wordOf(int word, int what)",
        "int sheetOf(int person, int i)",
        "int score(int person)",
        "int call()",
        "int caller()",
        "int written(int person, int second)",
        "int kept(int person)",
        "int points(int person, int column)",
        "int winner()",
        "int best(int person, int what)",
        "int order(int person, int i)",
        "int swap(int person, int i, int j)",
        "int bestWord(int person, int column)",
        "int learn(int person, int what)",
        "int lonely(int letter)",
        "int fills(int person, int letter)",
        "int gains(int letter)",
        "int silent(int letter, int rate, int second)",
        "int stop(int letter, int rate, int person)",
        "int judge(int s, int n, int person)",
        "int takes(int s, int n, int person)",
        "int keptBy(int word)",
        "int rival(int person)",
        "int needFor(int person)",
        "int late(int person)",
        "int clashes()",
        "int empty()",
        "int takeBest(int person)",
        "int round()",
        "int rounds(int n)",
        "int again()",
        "int seed(int v)",
        "int image()",
        "int back()",
        "int status(int what)",
    };

    private Face() {
    }

    static String name(String method) {
        return method.substring(method.indexOf(' ') + 1, method.indexOf('('));
    }

    /** Each parameter with its type, as "int s". */
    static String[] parameters(String method) {
        String all = method.substring(method.indexOf('(') + 1, method.indexOf(')'));
        return all.isEmpty() ? new String[0] : all.split(", ");
    }
}
