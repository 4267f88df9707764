import java.util.NoSuchElementException;
import java.util.function.Supplier;
import java.util.function.ToLongFunction;

/** What the tests share: texts put in, rows told, answers compared, and the end with exit code 1 if one was wrong. */
final class Checks {
    static final long THROWN = Long.MIN_VALUE;
    private static final int MOST_TOLD = 20;

    private static int wrong = 0;
    private static int asked = 0;
    private static String sentence = "";

    private Checks() {
    }

    /** What is asked from here on is of this sentence of a promise (of 0: of the document's Terms). */
    static void of(int promise, String words) {
        sentence = (promise == 0 ? "Terms" : "promise " + promise) + ", \"" + words + "\": ";
    }

    static void due(String what, long got, long want) {
        due(what, "" + got, "" + want);
    }

    static void due(String what, String got, String want) {
        asked++;
        if (got.equals(want)) return;
        wrong++;
        if (wrong <= MOST_TOLD) System.out.println(sentence + what + " answered " + got + ", due is " + want);
    }

    static void due(String what, boolean got, boolean want) {
        due(what, got ? 1 : 0, want ? 1 : 0);
    }

    /** A call's answer and the ROW behind it. */
    static void due(String what, TurningPosts x, long got, long want, String row) {
        due(what, got, want);
        due(what + ": the ROW", row(x), row);
    }

    /** A call answers so, and leaves all as it was. */
    static void refused(String what, Supplier<TurningPosts> made, ToLongFunction<TurningPosts> call, long want) {
        TurningPosts x = made.get();
        TurningPosts y = made.get();
        due(what, call.applyAsLong(x), want);
        due(what + ": the state behind it", Whole.of(x), Whole.of(y));
    }

    /** A call that reads this text answers so, and leaves all but THE TEXT as it was. */
    static void refused(String what, Supplier<TurningPosts> made, String signs, ToLongFunction<TurningPosts> call, long want) {
        TurningPosts x = made.get();
        TurningPosts y = made.get();
        text(x, signs);
        due(what, call.applyAsLong(x), want);
        y.end(0);
        due(what + ": the state behind it", Whole.of(x), Whole.of(y));
    }

    /** A new object with something of all that there is: THE RULE, walkers, turned POSTS, a ROW, what is kept, seen, heard, undone; THE TEXT is 0;1. */
    static TurningPosts busy() {
        TurningPosts x = on("02;13;20");
        rule(x, "c+n+h*2+k");
        x.comes(1, 3);
        x.goes(1);
        x.comes(2, 5);
        x.goes(2);
        x.keep(0);
        x.points(3, 1);
        x.bursts(2);
        x.walks(1);
        x.keep(2);
        x.undo();
        x.seen(2, 1, x.post(2, 2));
        x.seen(1, 1, x.post(1, 2));
        x.heard(1, 3);
        x.home(2);
        text(x, "0;1");
        return x;
    }

    /** As busy(), with all seven LINES there can be; POSTS and CROWDS of all are turned and changed, most of all those of the last. */
    static TurningPosts busyOfSeven() {
        TurningPosts x = on("0234;0345;0456;0567;0671;0712;0123");
        rule(x, "k+c");
        day(x, "p12c11p23c22p31c33p42c44p53c55p61c66p72c77");
        x.keep(1);
        x.points(7, 3);
        x.goes(7);
        x.goes(6);
        x.bursts(7);
        x.points(7, 2);
        x.keep(2);
        x.seen(7, 1, x.post(7, 2));
        x.heard(1, 4);
        x.home(7);
        return x;
    }

    /** THE TEXT is just these signs (of 80 at most). */
    static void text(TurningPosts x, String signs) {
        x.end(0);
        for (int p = 0; p < signs.length(); p += 4) {
            int four = 0;
            for (int i = p; i < p + 4; i++) four = four << 8 | (i < signs.length() ? signs.charAt(i) & 255 : 0);
            x.sign(four);
        }
        x.end(signs.length());
    }

    static int net(TurningPosts x, String signs) {
        text(x, signs);
        return x.net();
    }

    static int rule(TurningPosts x, String signs) {
        text(x, signs);
        return x.rule();
    }

    static int day(TurningPosts x, String signs) {
        text(x, signs);
        return x.day();
    }

    static int law(TurningPosts x, String signs) {
        text(x, signs);
        return x.law();
    }

    /** A new object with this net. */
    static TurningPosts on(String net) {
        TurningPosts x = new TurningPosts();
        due("net " + net, net(x, net) > 0, true);
        return x;
    }

    static String row(TurningPosts x) {
        StringBuilder all = new StringBuilder();
        int size = x.count(9);
        for (int i = 0; i < size; i++) all.append(i == 0 ? "" : " ").append(x.row(i));
        return all.toString();
    }

    static long post(TurningPosts x, int crossing, int what) {
        try {
            return x.post(crossing, what);
        } catch (NoSuchElementException e) {
            return THROWN;
        }
    }

    static long way(TurningPosts x, int crossing, int k) {
        try {
            return x.way(crossing, k);
        } catch (NoSuchElementException e) {
            return THROWN;
        }
    }

    static long rowAt(TurningPosts x, int i) {
        try {
            return x.row(i);
        } catch (NoSuchElementException e) {
            return THROWN;
        }
    }

    /** Number what (1: POST, 3: CROWD, ..) of CROSSINGS 1, 2, .. */
    static String all(TurningPosts x, int what) {
        StringBuilder all = new StringBuilder();
        int crossings = x.count(0);
        for (int v = 1; v < crossings; v++) all.append(v == 1 ? "" : " ").append(x.post(v, what));
        return all.toString();
    }

    static String posts(TurningPosts x) {
        return all(x, 1);
    }

    static String crowds(TurningPosts x) {
        return all(x, 3);
    }

    static void end(String name) {
        System.out.println(name + ": " + asked + " asked, " + wrong + " wrong");
        if (wrong != 0) System.exit(1);
    }
}
