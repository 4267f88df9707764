/** Promises 9 to 16: walkers who come, go, walk home, CROWDS that BURST, POSTS, days, undo. */
public final class WalkersTest {
    public static void main(String[] args) {
        comes();
        goes();
        goesByRule();
        walks();
        walksFar();
        bursts();
        calms();
        calmsMuch();
        points();
        day();
        dayFails();
        dayRefused();
        undo();
        undoForgotten();
        housedIsFull();
        stepsAreFull();
        Checks.end("WalkersTest");
    }

    private static void comes() {
        TurningPosts x = Checks.on("02;13;20");
        Checks.due("one", x.comes(3, 1), 1);
        Checks.due("98 more", x.comes(3, 98), 99);
        Checks.due("one too many", x.comes(3, 1), -2);
        Checks.due("99 too many", x.comes(3, 99), -2);
        Checks.due("they can be undone", x.count(8), 2);
        Checks.due("99 at once", x.comes(1, 99), 99);
        int[][] wrong = {{0, 1}, {4, 1}, {-1, 1}, {1, 0}, {1, 100}, {1, -1}, {3, 100}, {3, 0}, {1, Integer.MIN_VALUE}, {1, Integer.MAX_VALUE}, {Integer.MAX_VALUE, 1}, {Integer.MIN_VALUE, 1}};
        for (int[] call : wrong) Checks.due("comes(" + call[0] + ", " + call[1] + ")", x.comes(call[0], call[1]), -1);
        Checks.due("nothing changed", Checks.crowds(x), "99 0 99");
        Checks.due("nothing more to undo", x.count(8), 3);
        Checks.due("more than 99 come by BURSTS", x.bursts(1), 97);
        x.bursts(3);
        x.comes(2, 97);
        Checks.due("99 there", Checks.post(x, 2, 3), 99);
        x.bursts(1);
        Checks.due("100 there", Checks.post(x, 2, 3), 100);
        Checks.due("no more come", x.comes(2, 1), -2);
    }

    private static void goes() {
        TurningPosts x = Checks.on("02;13;20");
        Checks.due("none there", x.goes(2), -2);
        x.comes(2, 3);
        Checks.due("to 1", x, x.goes(2), 1, "1 2");
        Checks.due("to 3", x, x.goes(2), 3, "0 1");
        Checks.due("to 1 again", x, x.goes(2), 1, "1 0");
        Checks.due("CROWDS", Checks.crowds(x), "2 0 1");
        Checks.due("STEPS", x.count(3), 3);
        Checks.due("to THE INN", x, x.goes(1), 0, "1 1");
        Checks.due("HOUSED", x.count(2), 1);
        Checks.due("POSTS", Checks.posts(x), "1 1 0");
        Checks.due("none is left", x.goes(2), -2);
        Checks.due("the ROW stays", Checks.row(x), "1 1");
        for (int v : new int[] {0, -1, 4, 8, Integer.MAX_VALUE, Integer.MIN_VALUE}) Checks.due("goes(" + v + ")", x.goes(v), -1);
        Checks.due("four can be undone", x.count(8), 5);
    }

    private static void goesByRule() {
        TurningPosts x = Checks.on("022;130;20");
        Checks.rule(x, "c");
        x.comes(1, 3);
        // He is gone when TURN is reckoned: 2 are left there.
        Checks.due("by those who are left", x, x.goes(1), 0, "2 2");
        Checks.due("by the one left", x, x.goes(1), 2, "0 1");
        Checks.due("by none", x, x.goes(1), 0, "0 0");
        Checks.rule(x, "h+n");
        x.comes(1, 1);
        // HOUSED is 2, STEPS 3: 5 more, by 3 WAYS 2.
        Checks.due("by HOUSED and STEPS ahead of the STEP", x, x.goes(1), 0, "2 0");
        Checks.rule(x, "w");
        x.comes(1, 1);
        Checks.due("by where the POST goes to", x, x.goes(1), 2, "1 0");
        Checks.rule(x, "9");
        x.comes(1, 1);
        Checks.due("9 by 3 WAYS", x, x.goes(1), 2, "1 0");
        Checks.rule(x, "-1");
        x.comes(1, 1);
        Checks.due("0 for what is below", x, x.goes(1), 2, "1 0");
    }

    private static void walks() {
        TurningPosts x = Checks.on("02;13;20");
        x.comes(2, 2);
        x.comes(3, 1);
        Checks.due("2 1 0", x, x.walks(2), 2, "7");
        Checks.due("POSTS", Checks.posts(x), "1 1 0");
        // 2 3, 3 2, 2 1, 1 2, 2 3, 3 0
        Checks.due("2 3 2 1 2 3 0", x, x.walks(2), 6, "15");
        Checks.due("POSTS then", Checks.posts(x), "0 0 0");
        Checks.due("CROWDS then", Checks.crowds(x), "0 0 1");
        Checks.due("HOUSED", x.count(2), 2);
        Checks.due("STEPS", x.count(3), 8);
        Checks.due("none is left", x.walks(2), -2);
        Checks.due("the ROW stays", Checks.row(x), "15");
        for (int v : new int[] {0, -1, 4, Integer.MAX_VALUE, Integer.MIN_VALUE}) Checks.due("walks(" + v + ")", x.walks(v), -1);
        Checks.due("can be undone", x.count(8), 4);
    }

    private static void walksFar() {
        TurningPosts x = Checks.on("20;1");
        Checks.rule(x, "0");
        x.comes(1, 1);
        x.ready();
        Checks.due("a ring", x.walks(1), -3);
        Checks.due("nothing changes", Checks.crowds(x) + " " + Checks.posts(x), "1 0 0 0");
        Checks.due("no STEPS", x.count(3), 0);
        Checks.due("the ROW stays", Checks.row(x), "0 1");
        Checks.due("nothing to undo", x.count(8), 1);
        TurningPosts y = far();
        y.comes(3, 1);
        y.comes(7, 1);
        Checks.due("1000 STEPS", y.walks(7), -3);
        Checks.due("999 STEPS", y.walks(3), 999);
        Checks.due("all are counted", y.count(3), 999);
    }

    /** From 3 it is 999 STEPS, and from 7 one more. */
    static TurningPosts far() {
        TurningPosts x = Checks.on("0666;1663;2666;36;4666;5555;3");
        String posts = "120030";
        for (int v = 1; v <= 6; v++) x.points(v, posts.charAt(v - 1) - '0');
        return x;
    }

    private static void bursts() {
        TurningPosts x = Checks.on("002;13;200");
        x.comes(1, 7);
        x.comes(2, 1);
        x.ready();
        Checks.due("three go", x.bursts(1), 4);
        Checks.due("two to THE INN", x.count(2), 2);
        Checks.due("one to 2", Checks.crowds(x), "4 2 0");
        Checks.due("POSTS stay", Checks.posts(x), "0 0 0");
        Checks.due("no STEPS", x.count(3), 0);
        Checks.due("again", x.bursts(1), 1);
        Checks.due("too small", x.bursts(1), -2);
        Checks.due("just as many", x.bursts(2), 1);
        Checks.due("CROWDS", Checks.crowds(x), "2 1 1");
        Checks.due("the ROW stays", Checks.row(x), "1 8");
        for (int v : new int[] {0, -1, 4, Integer.MAX_VALUE, Integer.MIN_VALUE}) Checks.due("bursts(" + v + ")", x.bursts(v), -1);
        Checks.due("can be undone", x.count(8), 5);
    }

    private static void calms() {
        TurningPosts x = Checks.on("02;13;20");
        x.comes(2, 4);
        // 2 twice: 2 0 2; 1 and 3 once: 0 2 0; 2 once: 1 0 1.
        Checks.due("five BURSTS", x, x.calms(), 5, "1 3 1");
        Checks.due("CROWDS", Checks.crowds(x), "1 0 1");
        Checks.due("HOUSED", x.count(2), 2);
        Checks.due("no STEPS", x.count(3), 0);
        Checks.due("POSTS stay", Checks.posts(x), "0 0 0");
        Checks.due("none", x, x.calms(), 0, "0 0 0");
        Checks.due("none can be undone, too", x.count(8), 3);
        Checks.due("undone", x.undo(), 2);
        Checks.due("undone", x.undo(), 1);
        Checks.due("as ahead of it", Checks.crowds(x), "0 4 0");
        Checks.due("HOUSED as ahead of it", x.count(2), 0);
    }

    private static void calmsMuch() {
        TurningPosts x = Checks.on("0;0777;2777;3777;4777;5777;6666");
        x.comes(1, 5);
        x.comes(2, 1);
        x.comes(6, 3);
        x.comes(7, 30);
        Checks.due("9999", x.calms(), 9999);
        x.undo();
        x.ready();
        x.comes(1, 1);
        // Each one at 1 is one BURST more.
        Checks.due("10000", x.calms(), -3);
        Checks.due("nothing changes", Checks.crowds(x), "6 1 0 0 0 3 30");
        Checks.due("no one is housed", x.count(2), 0);
        Checks.due("the ROW stays", Checks.row(x), "2 39");
        Checks.due("nothing more to undo", x.count(8), 5);
    }

    private static void points() {
        TurningPosts x = Checks.on("022;13;20");
        Checks.due("to 2", x.points(1, 2), 10);
        Checks.due("to 1", x.points(1, 1), 12);
        Checks.due("it is so", x.points(1, 1), -2);
        Checks.due("to 0", x.points(1, 0), 11);
        Checks.due("it is so already", x.points(2, 0), -2);
        int[][] wrong = {{0, 0}, {-1, 0}, {4, 0}, {1, 3}, {2, 2}, {1, -1}, {Integer.MAX_VALUE, 0}, {1, Integer.MAX_VALUE}, {1, Integer.MIN_VALUE}};
        for (int[] call : wrong) Checks.due("points(" + call[0] + ", " + call[1] + ")", x.points(call[0], call[1]), -1);
        Checks.due("three can be undone", x.count(8), 3);
        x.undo();
        Checks.due("undone", Checks.posts(x), "1 0 0");
    }

    private static void day() {
        TurningPosts x = Checks.on("02;13;20");
        Checks.due("nothing", x, Checks.day(x, ""), 0, "0 0");
        Checks.due("nothing to undo", x.count(8), 0);
        Checks.due("all acts", x, Checks.day(x, "c23g2p21b1c19w2b1ac31"), 2, "1 0");
        Checks.due("p21 was refused", Checks.crowds(x) + " " + Checks.posts(x), "1 2 0 0 1 0");
        x.undo();
        Checks.due("as one", Checks.crowds(x) + " " + Checks.posts(x), "0 0 0 0 0 0");
        // g2 turns POST 2 to 1, so p20 sets it; w2 goes 2 1 0; b1 of 10; calms all
        Checks.due("all acts, done", x, Checks.day(x, "c23g2p20c19w2b1ac31"), 8, "0 10");
        Checks.due("THE TEXT is empty", x.count(10), 0);
        Checks.due("one to undo", x.count(8), 1);
        Checks.due("STEPS", x.count(3), 3);
        Checks.due("undone", x.undo(), 0);
        Checks.due("all as at first", Checks.crowds(x) + " " + Checks.posts(x) + " " + x.count(2) + " " + x.count(3), "0 0 0 0 0 0 0 0");
        Checks.due("p and a digit 3", x, Checks.day(x, "p13"), 0, "1 0");
        Checks.due("60 signs", x, Checks.day(x, "a".repeat(60)), 60, "0 0");
        Checks.due("60 signs as one", x.undo(), 0);
        Checks.due("a that is too much ends it", x.count(8), 0);
    }

    private static void dayFails() {
        String[] days = {"x", "c", "c1", "c10", "c1a", "cx", "c19", "c1x", "g", "gx", "g9", "w", "w8", "b", "b0", "p", "p1", "p14", "p9", "p93", "a", "aa", "aax", "aac", "c12c", "A", " ", "1", "p1a", "c:1", "c1:", "c1/"};
        int[] answers = {-1, -2, -3, -3, -3, -2, 1, -3, -2, -2, 0, -2, 0, -2, 0, -2, -3, -3, -3, 0, 1, 2, -3, -4, -5, -1, -1, -1, -3, -2, -3, -3};
        for (int i = 0; i < days.length; i++) {
            TurningPosts x = Checks.on("00;0");
            x.fits();
            Checks.due("day " + days[i], Checks.day(x, days[i]), answers[i]);
            Checks.due("day " + days[i] + ": THE TEXT is empty", x.count(10), 0);
            Checks.due("day " + days[i] + ": the ROW", x.count(9), answers[i] < 0 ? 1 : 2);
            Checks.due("day " + days[i] + ": to undo", x.count(8), answers[i] > 0 ? 1 : 0);
        }
        TurningPosts x = Checks.on("00;0");
        Checks.due("61 signs", Checks.day(x, "a".repeat(61)), -61);
        Checks.due("61 of which the 60th can't stand", Checks.day(x, "a".repeat(59) + "xa"), -60);
        Checks.due("61 of which the last can't stand", Checks.day(x, "a".repeat(60) + "x"), -61);
        Checks.due("61 of which 60 could go on", Checks.day(x, "a".repeat(59) + "g1"), -61);
        Checks.due("60 that end too early", Checks.day(x, "a".repeat(59) + "g"), -61);
        Checks.due("60 that don't", Checks.day(x, "a".repeat(58) + "g1"), 58);
        Checks.due("80 signs", Checks.day(x, "c11".repeat(26) + "c1"), -61);
        Checks.due("nothing is done", x.count(4), 0);
        Checks.due("what stands ahead of it is not done", Checks.day(x, "c11x"), -4);
        Checks.due("no one came", x.count(4), 0);
    }

    private static void dayRefused() {
        TurningPosts x = Checks.on("20;1");
        Checks.rule(x, "0");
        String[] days = {"c01a", "c31a", "g1a", "g0a", "w1a", "w9a", "b1a", "b0a", "p00a", "p10a", "p12a", "p30a"};
        for (String day : days) {
            Checks.due("day " + day, x, Checks.day(x, day), 0, "1 0");
            Checks.due("day " + day + ": nothing to undo", x.count(8), 0);
        }
        Checks.due("w1 in a ring", x, Checks.day(x, "c11w1a"), 1, "1 0");
        Checks.due("he came", Checks.crowds(x), "1 0");
        x.undo();
        Checks.due("till CROWD is 99", x, Checks.day(x, "c19".repeat(12)), 11, "1 0");
        Checks.due("99", Checks.crowds(x), "99 0");
    }

    private static void undo() {
        TurningPosts x = Checks.on("02;13;20");
        Checks.due("none", x.undo(), -1);
        x.comes(2, 5);
        x.goes(2);
        x.walks(2);
        x.points(1, 0);
        x.bursts(2);
        x.calms();
        Checks.day(x, "c11c12");
        Checks.due("seven", x.count(8), 7);
        Checks.due("day", x.undo(), 6);
        Checks.due("the ROW stays", Checks.row(x), "0 " + x.count(2));
        x.undo();
        x.undo();
        Checks.due("ahead of bursts", x.count(8), 4);
        Checks.due("left", x.undo(), 3);
        x.undo();
        Checks.due("ahead of walks", Checks.crowds(x) + " " + Checks.posts(x) + " " + x.count(2) + " " + x.count(3), "1 4 0 0 1 0 0 1");
        Checks.due("one", x.undo(), 1);
        Checks.due("ahead of goes", Checks.crowds(x) + " " + Checks.posts(x) + " " + x.count(2) + " " + x.count(3), "0 5 0 0 0 0 0 0");
        Checks.due("none left", x.undo(), 0);
        Checks.due("ahead of all", Checks.crowds(x), "0 0 0");
        Checks.due("no more", x.undo(), -1);
        for (int i = 1; i <= 20; i++) x.comes(1, i % 2 + 1);
        Checks.due("15 are kept", x.count(8), 15);
        for (int left = 14; left >= 0; left--) Checks.due("left", x.undo(), left);
        Checks.due("the latest 15", Checks.crowds(x), "8 0 0");
        Checks.due("the older ones can't", x.undo(), -1);
        for (int i = 1; i <= 3; i++) x.comes(2, i);
        Checks.due("two left", x.undo(), 2);
        x.comes(3, 1);
        Checks.due("the latest one", x.undo(), 2);
        Checks.due("3 of them came", Checks.crowds(x), "8 3 0");
    }

    private static void undoForgotten() {
        TurningPosts x = Checks.on("02;13;20");
        x.comes(1, 1);
        x.keep(0);
        Checks.due("keep forgets nothing", x.count(8), 1);
        Checks.due("a refused again", x.again(1), false);
        Checks.due("it forgets nothing", x.count(8), 1);
        Checks.net(x, "2");
        Checks.due("nor a net that fails", x.count(8), 1);
        Checks.due("again", x.again(0), true);
        Checks.due("it forgets", x.undo(), -1);
        x.comes(1, 1);
        Checks.due("from there on", x.undo(), 0);
        x.comes(1, 1);
        Checks.net(x, "0");
        Checks.due("a net forgets", x.undo(), -1);
    }

    private static void housedIsFull() {
        TurningPosts x = Checks.on("0000;000;00;0;0;0;0");
        for (int i = 0; i < 15; i++) {
            for (int v = 1; v <= 7; v++) x.comes(v, 99 - (int) Checks.post(x, v, 3));
            x.calms();
        }
        Checks.due("9999", x.count(2), 9999);
        Checks.due("of THE INN", Checks.post(x, 0, 3), 9999);
        Checks.rule(x, "h");
        Checks.due("9999 by 7", Checks.post(x, 1, 4), 3);
        x.comes(4, 1);
        x.goes(4);
        Checks.due("no more by goes", x.count(2), 9999);
        x.comes(4, 1);
        x.walks(4);
        Checks.due("no more by walks", x.count(2), 9999);
        x.comes(4, 1);
        x.bursts(4);
        Checks.due("no more by bursts", x.count(2), 9999);
        int came = x.years(5, 60);
        Checks.due("years count on", came > 0, true);
    }

    private static void stepsAreFull() {
        TurningPosts x = Checks.on("025;165;27;377;47;577;66");
        for (int walker = 0; walker < 150; walker++) {
            if (walker % 75 == 0) x.comes(7, 75);
            Checks.due("walk " + walker, x.walks(7) > 0, true);
        }
        Checks.due("99999", x.count(3), 99999);
        Checks.rule(x, "n");
        Checks.due("99999 by 7", Checks.post(x, 1, 4), 4);
        Checks.rule(x, "");
        x.comes(7, 1);
        x.goes(7);
        Checks.due("no more", x.count(3), 99999);
        x.years(3, 60);
        Checks.due("years count on", x.row(1) > 0, true);
        Checks.due("they change nothing", x.count(3), 99999);
    }
}
