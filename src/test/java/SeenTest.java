/** Promises 39 to 46: which way a POST pointed, by what was seen; which CROSSING it was, by what was heard. */
public final class SeenTest {
    private static final int[] NO_CROSSINGS = {0, -1, 4, 8, Integer.MAX_VALUE, Integer.MIN_VALUE};

    public static void main(String[] args) {
        seen();
        forget();
        guess();
        guessByState();
        looks();
        heard();
        denies();
        fits();
        asks();
        Checks.end("SeenTest");
    }

    private static TurningPosts three() {
        return Checks.on("02;13;20");
    }

    private static void seen() {
        TurningPosts x = three();
        for (int v : NO_CROSSINGS) Checks.due("seen(" + v + ", 1, 1)", x.seen(v, 1, 1), -1);
        for (int n : new int[] {-1, 21, Integer.MAX_VALUE, Integer.MIN_VALUE}) Checks.due("seen(1, " + n + ", 1)", x.seen(1, n, 1), -1);
        for (int at : new int[] {-1, 4, 8, Integer.MAX_VALUE, Integer.MIN_VALUE}) Checks.due("seen(1, 1, " + at + ")", x.seen(1, 1, at), -1);
        Checks.due("none such", x.count(6), 0);
        Checks.due("at once", x.seen(1, 0, 1), 1);
        Checks.due("at THE INN behind 20", x.seen(1, 20, 0), 2);
        for (int i = 3; i <= 10; i++) Checks.due("seen", x.seen(1, 1, 0), i);
        Checks.due("an eleventh", x.seen(1, 1, 0), -1);
        Checks.due("ten", x.count(6), 10);
    }

    private static void forget() {
        TurningPosts x = three();
        Checks.due("none", x.forget(), 0);
        x.seen(2, 1, 3);
        x.seen(2, 1, 3);
        Checks.due("two", x.forget(), 2);
        Checks.due("none left", x.count(6), 0);
        Checks.due("all can be", x, x.guess(2), 3, "2 1");
        Checks.due("again from one", x.seen(2, 1, 1), 1);
    }

    private static void guess() {
        TurningPosts x = three();
        Checks.due("nothing seen", x, x.guess(2), 3, "2 1");
        x.seen(2, 1, 1);
        Checks.due("its own", x, x.guess(2), 1, "1 1");
        x.points(2, 1);
        Checks.due("not its own", x, x.guess(2), 1, "1 0");
        Checks.due("nor does any of 1", x, x.guess(1), 0, "0 0");
        x.points(2, 0);
        x.seen(2, 2, 0);
        Checks.due("1 by one from 2", x, x.guess(1), 1, "1 1");
        Checks.due("3 is not told of", x, x.guess(3), 3, "2 1");
        x.seen(2, 1, 3);
        Checks.due("it can't be", x, x.guess(2), 0, "0 0");
        for (int v : NO_CROSSINGS) Checks.due("guess(" + v + ")", x.guess(v), -1);
        Checks.due("the ROW stays", Checks.row(x), "0 0");
        Checks.due("POSTS stay", Checks.posts(x), "0 0 0");
    }

    private static void guessByState() {
        TurningPosts x = Checks.on("2220;1");
        Checks.rule(x, "c");
        x.comes(1, 3);
        x.seen(1, 3, 0);
        // Twice he leaves 1, by POST 0 and by 3, or by 3 at once.
        Checks.due("by TURN of 3", x, x.guess(1), 0b1001, "2 1");
        x.comes(1, 1);
        Checks.due("by TURN of 4, that is 0", x, x.guess(1), 0b1000, "1 0");
        Checks.rule(x, "n+1");
        Checks.due("by STEPS", x, x.guess(1), 0b1100, "2 0");
        x.comes(2, 1);
        x.goes(2);
        // One STEP was gone: TURN 2.
        Checks.due("by one STEP more", x, x.guess(1), 0b1010, "2 0");
    }

    private static void looks() {
        TurningPosts x = three();
        Checks.due("1", x, x.looks(1), 101, "1");
        Checks.due("2", x, x.looks(2), 201, "1");
        Checks.due("3", x, x.looks(3), 301, "1");
        x.seen(2, 1, 1);
        Checks.due("it is known", x, x.looks(2), 100, "1");
        x.seen(2, 1, 3);
        Checks.due("none is left", x.looks(2), -2);
        for (int v : NO_CROSSINGS) Checks.due("looks(" + v + ")", x.looks(v), -1);
        Checks.due("the ROW stays", Checks.row(x), "1");
        x = Checks.on("0002;1");
        Checks.due("three like ones", x, x.looks(1), 101, "3");
        x = Checks.on("0234;1;1;1");
        Checks.due("four others", x, x.looks(1), 101, "1");
        x = Checks.on("0;0;1122");
        Checks.due("two and two", x, x.looks(3), 301, "2");
        x = Checks.on("0;1;2;3;4;5;66");
        Checks.due("no difference", x, x.looks(7), 100, "2");
        x = Checks.on("0655;165;246;366;466;5555");
        Checks.rule(x, "n");
        Checks.due("behind 20 STEPS", x, x.looks(4), 420, "1");
        x = Checks.on("662;656;0;6;34;1411");
        Checks.rule(x, "n/3");
        Checks.due("of one who starts elsewhere", x, x.looks(6), 120, "1");
    }

    private static void heard() {
        TurningPosts x = three();
        int[][] wrong = {{-1, 1}, {4, 1}, {0, 0}, {0, 5}, {1, -1}, {1, 10}, {2, -1}, {2, 8}, {3, 0}, {3, 8}, {Integer.MAX_VALUE, 1}, {Integer.MIN_VALUE, 1}, {1, Integer.MAX_VALUE}, {3, Integer.MIN_VALUE}};
        for (int[] call : wrong) Checks.due("heard(" + call[0] + ", " + call[1] + ")", x.heard(call[0], call[1]), -1);
        Checks.due("none such", x.count(7), 0);
        int[][] right = {{0, 1}, {0, 4}, {1, 0}, {1, 9}, {2, 0}, {2, 7}, {3, 1}, {3, 7}, {3, 7}, {0, 2}, {2, 5}, {1, 3}};
        for (int i = 0; i < right.length; i++) Checks.due("heard", x.heard(right[i][0], right[i][1]), i + 1);
        Checks.due("a thirteenth", x.heard(0, 1), -1);
        Checks.due("twelve", x.count(7), 12);
    }

    private static void denies() {
        TurningPosts x = three();
        Checks.due("none", x.denies(), 0);
        x.heard(0, 4);
        x.heard(0, 3);
        Checks.due("none fits", x, x.fits(), 0, "0");
        Checks.due("two", x.denies(), 2);
        Checks.due("none left", x.count(7), 0);
        Checks.due("all fit", x, x.fits(), 14, "3");
    }

    /** By 1, 2, 3: 2 2 1 WAYS, CROWDS 0 3 5, POSTS to 0 1 2, 1 2 3 WAYS from THE INN. */
    private static TurningPosts various() {
        TurningPosts x = Checks.on("02;13;2");
        x.comes(2, 3);
        x.comes(3, 5);
        return x;
    }

    private static void fits() {
        int[][] heard = {{0, 2}, {0, 1}, {0, 4}, {1, 0}, {1, 1}, {1, 3}, {1, 4}, {1, 5}, {1, 6}, {2, 0}, {2, 1}, {2, 2}, {2, 3}, {2, 7}, {3, 1}, {3, 2}, {3, 3}, {3, 4}};
        int[] answers = {6, 8, 0, 14, 12, 12, 8, 8, 0, 2, 4, 8, 0, 0, 2, 4, 8, 0};
        for (int i = 0; i < heard.length; i++) {
            TurningPosts x = various();
            Checks.due("nothing heard", x, x.fits(), 14, "3");
            x.heard(heard[i][0], heard[i][1]);
            Checks.due("heard " + heard[i][0] + " " + heard[i][1], x, x.fits(), answers[i], "" + Integer.bitCount(answers[i]));
        }
        TurningPosts x = various();
        x.heard(0, 2);
        x.heard(1, 3);
        Checks.due("both", x, x.fits(), 4, "1");
        x.points(2, 1);
        x.heard(2, 3);
        Checks.due("as all is now", x, x.fits(), 4, "1");
        x.undo();
        Checks.due("as all is then", x, x.fits(), 0, "0");
    }

    private static void asks() {
        TurningPosts x = various();
        Checks.due("nothing heard", x, x.asks(), 1, "2");
        x.heard(0, 2);
        Checks.due("1 or 2", x, x.asks(), 11, "1");
        x.heard(1, 3);
        Checks.due("2 alone", x, x.asks(), 1, "1");
        x.heard(0, 1);
        Checks.due("none fits", x.asks(), -2);
        Checks.due("the ROW stays", Checks.row(x), "1");
        x = Checks.on("0;0;0;0");
        Checks.due("no difference", x, x.asks(), 1, "4");
        x = Checks.on("0;0;1;1");
        Checks.due("by POSTS", x, x.asks(), 20, "2");
        x = Checks.on("0;1;2;3;4");
        Checks.due("by none better than one of five", x, x.asks(), 20, "4");
    }
}
