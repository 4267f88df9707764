/** Promises 17 to 21: where walkers come to, how often they pass what, till all POSTS are as they were. */
public final class ComesToTest {
    private static final int[] NO_CROSSINGS = {0, -1, 4, 8, Integer.MAX_VALUE, Integer.MIN_VALUE};

    public static void main(String[] args) {
        later();
        home();
        ofNoCrowd();
        pass();
        passGrows();
        round();
        roundFar();
        follows();
        questionsChangeNothing();
        Checks.end("ComesToTest");
    }

    /** 2 1 2 3 2 1 0 is the walk from 2. */
    private static TurningPosts three() {
        TurningPosts x = Checks.on("02;13;20");
        x.points(1, 1);
        return x;
    }

    private static void later() {
        TurningPosts x = Checks.on("02;13;20");
        Checks.due("0 STEPS", x, x.later(2, 0), 2, "0 1");
        Checks.due("1", x, x.later(2, 1), 1, "1 1");
        Checks.due("2", x, x.later(2, 2), 0, "2 1");
        Checks.due("at THE INN he stays", x, x.later(2, 99), 0, "2 1");
        x = three();
        int[] places = {2, 1, 2, 3, 2, 1, 0, 0};
        String[] rows = {"0 1", "1 1", "2 2", "3 2", "4 3", "5 3", "6 3", "6 3"};
        for (int n = 0; n < places.length; n++) Checks.due("later(2, " + n + ")", x, x.later(2, n), places[n], rows[n]);
        for (int v : NO_CROSSINGS) Checks.due("later(" + v + ", 1)", x.later(v, 1), -1);
        for (int n : new int[] {-1, 100, Integer.MAX_VALUE, Integer.MIN_VALUE}) Checks.due("later(1, " + n + ")", x.later(1, n), -1);
        Checks.due("the ROW stays", Checks.row(x), "6 3");
        Checks.rule(x, "0");
        Checks.due("99 STEPS in a ring", x, x.later(1, 99), 2, "99 50");
    }

    private static void home() {
        TurningPosts x = three();
        Checks.due("from 2", x, x.home(2), 6, "2 3 1");
        Checks.due("from 1", x, x.home(1), 3, "2 1 0");
        for (int v : NO_CROSSINGS) Checks.due("home(" + v + ")", x.home(v), -1);
        Checks.rule(x, "0");
        Checks.due("a ring", x.home(1), -3);
        Checks.due("the ROW stays", Checks.row(x), "2 1 0");
        TurningPosts y = WalkersTest.far();
        Checks.due("999 STEPS", y.home(3), 999);
        Checks.due("1000 STEPS", y.home(7), -3);
    }

    private static void ofNoCrowd() {
        TurningPosts x = Checks.on("20;1");
        Checks.rule(x, "c");
        Checks.due("he is not in the CROWD of 1", x.home(1), -3);
        x.comes(1, 1);
        Checks.due("one is", x.home(1), 3);
        Checks.due("one who is goes without himself", x.walks(1), -3);
        x = Checks.on("20;1");
        Checks.rule(x, "h");
        Checks.due("none is housed", x.home(1), -3);
        x.comes(2, 1);
        x.bursts(2);
        Checks.due("nor by a BURST to 1", x.home(1), -3);
        x = Checks.on("20;1");
        Checks.rule(x, "n>0");
        Checks.due("STEPS grow: 1 2 1 2 1 0 turns at the second", x.home(1), 5);
    }

    private static void pass() {
        TurningPosts x = Checks.on("02;13;20");
        Checks.due("one", x, x.pass(2, 3, 1), 0, "2");
        Checks.due("two", x, x.pass(2, 3, 2), 1, "8");
        Checks.due("three", x, x.pass(2, 3, 3), 1, "10");
        Checks.due("60", x, x.pass(2, 3, 60), 30, "240");
        Checks.due("through 1", x, x.pass(2, 1, 2), 2, "8");
        Checks.due("where they begin: all", x, x.pass(2, 2, 5), 5, "18");
        for (int v : NO_CROSSINGS) {
            Checks.due("pass(" + v + ", 1, 1)", x.pass(v, 1, 1), -1);
            Checks.due("pass(1, " + v + ", 1)", x.pass(1, v, 1), -1);
        }
        for (int n : new int[] {0, 61, -1, Integer.MAX_VALUE, Integer.MIN_VALUE}) Checks.due("pass(1, 1, " + n + ")", x.pass(1, 1, n), -1);
        Checks.due("the ROW stays", Checks.row(x), "18");
        TurningPosts y = WalkersTest.far();
        Checks.due("999 STEPS", y, y.pass(3, 3, 1), 1, "999");
        Checks.due("1000 STEPS", y.pass(7, 7, 1), -3);
    }

    private static void passGrows() {
        TurningPosts x = Checks.on("20;1");
        Checks.rule(x, "h");
        x.points(1, 1);
        // The first two go straight on; the POST then turns by the one housed, and a ring is left.
        Checks.due("two", x, x.pass(1, 1, 2), 2, "2");
        Checks.due("the third is not there", x.pass(1, 1, 3), -3);
        Checks.due("the ROW stays", Checks.row(x), "2");
        Checks.due("one till all is as it was", x, x.round(1), 1, "1");
        x.comes(1, 1);
        x.goes(1);
        Checks.due("HOUSED 1: the second is not there", x.round(1), -3);
    }

    private static void round() {
        TurningPosts x = Checks.on("02;13;20");
        Checks.due("two from 2", x, x.round(2), 2, "8");
        Checks.due("of a POST that never turns", x.round(1) > 0, true);
        Checks.rule(x, "0");
        Checks.due("one", x, x.round(3), 1, "3");
        for (int v : NO_CROSSINGS) Checks.due("round(" + v + ")", x.round(v), -1);
        Checks.due("the ROW stays", Checks.row(x), "3");
        x = new TurningPosts();
        Checks.due("of one WAY", x, x.round(1), 1, "1");
        x = Checks.on("000");
        Checks.due("of three WAYS", x, x.round(1), 3, "3");
        Checks.rule(x, "h=0");
        Checks.due("HOUSED turns it once in 7", x, x.round(1), 15, "15");
    }

    private static void roundFar() {
        TurningPosts x = Checks.on("0400;4530;4522;50;16;5043");
        String posts = "012003";
        for (int v = 1; v <= 6; v++) x.points(v, posts.charAt(v - 1) - '0');
        Checks.due("300", x.round(1), 300);
        String row = Checks.row(x);
        Checks.net(x, "0;10;5127;0362;660;775;114");
        Checks.due("301", x.round(5), -2);
        Checks.due("the ROW stays", Checks.row(x), row);
        Checks.due("1000 STEPS", WalkersTest.far().round(7), -3);
    }

    private static void follows() {
        TurningPosts x = Checks.on("02;13;20");
        Checks.due("from 1", x, x.follows(1), 3, "1 1");
        Checks.due("from 2", x, x.follows(2), 7, "1 2");
        Checks.due("from 3", x, x.follows(3), 15, "1 3");
        x.points(1, 1);
        Checks.due("a ring from 1", x, x.follows(1), 6, "0 2");
        Checks.due("a ring from 2", x, x.follows(2), 6, "0 2");
        Checks.due("into a ring from 3", x, x.follows(3), 14, "0 3");
        for (int v : NO_CROSSINGS) Checks.due("follows(" + v + ")", x.follows(v), -1);
        Checks.due("the ROW stays", Checks.row(x), "0 3");
        x = Checks.on("2;3;4;5;6;7;0");
        Checks.due("all seven", x, x.follows(1), 255, "1 7");
        x = Checks.on("2;3;4;5;6;7;10");
        Checks.due("a ring of all", x, x.follows(4), 254, "0 7");
    }

    private static void questionsChangeNothing() {
        TurningPosts x = Checks.on("02;13;20");
        x.comes(2, 3);
        x.later(2, 9);
        x.home(2);
        x.pass(2, 3, 9);
        x.round(2);
        x.follows(2);
        Checks.due("POSTS and CROWDS", Checks.posts(x) + " " + Checks.crowds(x), "0 0 0 0 3 0");
        Checks.due("HOUSED, STEPS, to undo", x.count(2) + " " + x.count(3) + " " + x.count(8), "0 0 1");
    }
}
