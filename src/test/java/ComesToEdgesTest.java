/** Edges that promises 17 to 21 name: where walkers come to, whom they pass, till all POSTS are as they were. */
public final class ComesToEdgesTest {
    private static final int LEAST = Integer.MIN_VALUE;
    private static final int MOST = Integer.MAX_VALUE;
    /** Of a net of three LINES: THE INN, and none such. */
    private static final int[] NO_POST = {0, -1, 4, 7, 8, MOST, LEAST};

    public static void main(String[] args) {
        oneMore();
        later();
        home();
        homeTooFar();
        pass();
        passTooFar();
        round();
        roundNever();
        roundTooFar();
        follows();
        followsRings();
        Checks.end("ComesToEdgesTest");
    }

    /** 1 2 1 2 .. without end, by a RULE of 0. */
    private static TurningPosts ring() {
        TurningPosts x = Checks.on("20;1");
        Checks.rule(x, "0");
        x.fits();
        return x;
    }

    private static void oneMore() {
        Checks.of(0, "where walkers come to (one more who starts at a CROSSING now; POSTS turn, HOUSED and STEPS grow as he goes, as by walks(); CROWDS are as now for TURN, he is of none).");
        for (String rule : new String[] {"", "1", "n", "n+h", "k+1", "w+d", "i", "c", "c+1", "c*n", "5-c", "c=i"}) {
            for (int crowd = 0; crowd <= 2; crowd++) {
                TurningPosts x = Checks.on("023;130;220");
                Checks.rule(x, rule);
                x.points(2, 2);
                x.sheet(2, 3, crowd, crowd);
                for (int v = 1; v <= 3; v++) {
                    int far = x.home(v);
                    x.comes(v, 1);
                    Checks.due("walks(" + v + ") by rule " + rule, x.walks(v), far);
                }
            }
        }
        TurningPosts x = Checks.on("20;1");
        Checks.rule(x, "c");
        Checks.due("none at 1: no TURN", x.home(1), -3);
        x.comes(1, 1);
        Checks.due("one at 1 turns it", x.home(1), 3);
        Checks.due("from 2, too", x.home(2), 4);
        x.sheet(2, 2, 0, 1);
        Checks.due("one at 2, which has one WAY", x.home(2), -3);
        x = Checks.on("000");
        Checks.rule(x, "h");
        // HOUSED 0, 1, 2, 3, ..: POST 0, 1, 0, 0, ..
        Checks.due("HOUSED grows from one to the next", x, x.round(1), 1, "1");
        x.comes(1, 1);
        x.goes(1);
        // From 1 on: 1, 3, 6, .., by 3: 1, 0.
        Checks.due("from 1 on", x, x.round(1), 2, "2");
        Checks.rule(x, "n");
        Checks.due("STEPS grow, too", x, x.round(1), 2, "2");
    }

    private static void later() {
        Checks.of(17, "The CROSSING where he is behind n STEPS (0 .. 99; at THE INN he stays): it; the ROW: how many STEPS he went, how often he was where he began (at first, too).");
        TurningPosts x = Checks.on("2;3;4;5;6;7;0");
        for (int n = 0; n <= 8; n++) Checks.due("later(1, " + n + ")", x, x.later(1, n), n < 7 ? n + 1 : 0, Math.min(n, 7) + " 1");
        Checks.due("99", x, x.later(1, 99), 0, "7 1");
        Checks.due("from 7", x, x.later(7, 1), 0, "1 1");
        x = ring();
        Checks.due("0 STEPS", x, x.later(1, 0), 1, "0 1");
        Checks.due("98 STEPS", x, x.later(1, 98), 1, "98 50");
        Checks.due("99 STEPS", x, x.later(1, 99), 2, "99 50");
        Checks.due("from 2", x, x.later(2, 99), 1, "99 50");
        Checks.of(17, "NONE: others, THE INN.");
        for (int v : NO_POST) Checks.refused("later(" + v + ", 1)", Checks::busy, y -> y.later(v, 1), -1);
        for (int n : new int[] {-1, 100, MOST, LEAST}) Checks.refused("later(1, " + n + ")", Checks::busy, y -> y.later(1, n), -1);
        Checks.refused("later(0, 0)", Checks::busy, y -> y.later(0, 0), -1);
    }

    private static void home() {
        Checks.of(18, "In how many STEPS he is at THE INN: how many; the ROW: how often he leaves CROSSINGS 1, 2, ..");
        TurningPosts x = Checks.on("2;3;4;5;6;7;0");
        Checks.due("seven", x, x.home(1), 7, "1 1 1 1 1 1 1");
        Checks.due("one", x, x.home(7), 1, "0 0 0 0 0 0 1");
        x = Checks.on("20;1");
        Checks.due("1 2 1 0", x, x.home(1), 3, "2 1");
        Checks.due("2 1 2 1 0", x, x.home(2), 4, "2 2");
        x = new TurningPosts();
        Checks.due("of one CROSSING", x, x.home(1), 1, "1");
        Checks.of(18, "NONE: none such, THE INN.");
        for (int v : NO_POST) Checks.refused("home(" + v + ")", Checks::busy, y -> y.home(v), -1);
    }

    private static void homeTooFar() {
        Checks.of(18, "-3: in no 999");
        TurningPosts x = WalkersTest.far();
        Checks.due("999", x.home(3), 999);
        int left = 0;
        for (int i = 0; i < 7; i++) left += (int) x.row(i);
        Checks.due("the ROW together", left, 999);
        Checks.refused("1000", WalkersTest::far, y -> y.home(7), -3);
        x = justRound();
        Checks.due("999 by other POSTS", x.home(6), 999);
        Checks.refused("1000 by other POSTS", ComesToEdgesTest::justRound, y -> y.home(7), -3);
        Checks.refused("a ring", ComesToEdgesTest::ring, y -> y.home(2), -3);
    }

    private static void pass() {
        Checks.of(19, "Of n walkers (1 .. 60) who begin there, each when the one ahead is at THE INN, how many of them come through a CROSSING, to (not THE INN; where they begin: all): how many; the ROW: STEPS of all together.");
        TurningPosts x = Checks.on("0234;0;0;00");
        // By turns to 0, 2, 3, 4.
        for (int n = 1; n <= 60; n++) {
            int steps = 2 * n - (n + 3) / 4;
            x = Checks.on("0234;0;0;00");
            Checks.due(n + " through 2", x, x.pass(1, 2, n), (n + 2) / 4, "" + steps);
            Checks.due(n + " through 4", x, x.pass(1, 4, n), n / 4, "" + steps);
            Checks.due(n + " through 1", x, x.pass(1, 1, n), n, "" + steps);
        }
        Checks.due("never through 1", x, x.pass(4, 1, 60), 0, "60");
        Checks.due("nothing is done", Checks.posts(x) + " " + x.count(3), "0 0 0 0 0");
        x = Checks.on("20;1");
        Checks.due("through 2 twice is once", x, x.pass(2, 2, 1), 1, "4");
        Checks.of(19, "NONE: others, THE INN.");
        for (int v : NO_POST) {
            Checks.refused("pass(" + v + ", 1, 1)", Checks::busy, y -> y.pass(v, 1, 1), -1);
            Checks.refused("pass(1, " + v + ", 1)", Checks::busy, y -> y.pass(1, v, 1), -1);
        }
        for (int n : new int[] {0, 61, -1, MOST, LEAST}) Checks.refused("pass(1, 1, " + n + ")", Checks::busy, y -> y.pass(1, 1, n), -1);
    }

    /** By TURN of HOUSED the first two from 1 go straight on, the third in a ring. */
    private static TurningPosts thirdInRing() {
        TurningPosts x = Checks.on("20;1");
        Checks.rule(x, "h");
        x.points(1, 1);
        return x;
    }

    private static void passTooFar() {
        Checks.of(19, "-3: one is not there in 999 STEPS");
        TurningPosts x = WalkersTest.far();
        Checks.due("999", x, x.pass(3, 3, 1), 1, "999");
        Checks.refused("1000", WalkersTest::far, y -> y.pass(7, 7, 1), -3);
        x = justRound();
        Checks.due("999 each", x, x.pass(6, 6, 60), 60, "59940");
        Checks.refused("1000 each", ComesToEdgesTest::justRound, y -> y.pass(7, 6, 60), -3);
        x = thirdInRing();
        Checks.due("two", x, x.pass(1, 2, 2), 0, "2");
        Checks.refused("the third one of three", ComesToEdgesTest::thirdInRing, y -> y.pass(1, 2, 3), -3);
        Checks.refused("the third one of 60", ComesToEdgesTest::thirdInRing, y -> y.pass(1, 1, 60), -3);
    }

    private static void round() {
        Checks.of(20, "How many such walkers (1 .. 300) begin there, each when the one ahead is at THE INN, till all POSTS are as they are now, first: how many; the ROW: STEPS of all together.");
        for (int ways = 1; ways <= 4; ways++) {
            TurningPosts x = Checks.on("0000".substring(0, ways));
            Checks.due(ways + " WAYS, first", x, x.round(1), ways, "" + ways);
            if (ways > 1) x.points(1, ways - 1);
            Checks.due("from the last one on", x, x.round(1), ways, "" + ways);
        }
        TurningPosts x = Checks.on("02;13;20");
        Checks.due("all POSTS", x, x.round(2), 2, "8");
        // From 1: 0; 2 1 0 is by 1 again; then 2 3 2 1 ..
        Checks.rule(x, "0");
        Checks.due("none turns", x, x.round(1), 1, "1");
        Checks.of(20, "NONE: none such, THE INN.");
        for (int v : NO_POST) Checks.refused("round(" + v + ")", Checks::busy, y -> y.round(v), -1);
    }

    private static TurningPosts of300() {
        TurningPosts x = Checks.on("0400;4530;4522;50;16;5043");
        String posts = "012003";
        for (int v = 1; v <= 6; v++) x.points(v, posts.charAt(v - 1) - '0');
        x.fits();
        return x;
    }

    private static TurningPosts of301() {
        TurningPosts x = Checks.on("0;10;5127;0362;660;775;114");
        x.fits();
        return x;
    }

    private static void roundNever() {
        Checks.of(20, "-2: not in 300");
        TurningPosts x = of300();
        Checks.due("300", x.round(1), 300);
        int steps = (int) x.row(0);
        int all = 0;
        for (int walker = 0; walker < 300; walker++) {
            if (walker % 99 == 0) x.comes(1, 99);
            all += x.walks(1);
        }
        Checks.due("300 walk", all, steps);
        Checks.due("POSTS then", Checks.posts(x), "0 1 2 0 0 3");
        Checks.refused("301", ComesToEdgesTest::of301, y -> y.round(5), -2);
        x = of301();
        String posts = Checks.posts(x);
        for (int walker = 0; walker < 301; walker++) {
            if (walker % 99 == 0) x.comes(5, 99);
            x.walks(5);
        }
        Checks.due("301 walk", Checks.posts(x), posts);
    }

    private static void roundTooFar() {
        Checks.of(20, "-3: one is not there in 999 STEPS");
        Checks.refused("the first one, 1000", WalkersTest::far, y -> y.round(7), -3);
        TurningPosts x = justRound();
        Checks.due("the first one, 999, who turns all POSTS round", x, x.round(6), 1, "999");
        Checks.refused("the first one, 1000, who turns all POSTS round", ComesToEdgesTest::justRound, y -> y.round(7), -3);
        Checks.refused("a ring", ComesToEdgesTest::ring, y -> y.round(1), -3);
        // One was housed: the first is at THE INN at once, the second goes in a ring.
        Checks.refused("the second one", ComesToEdgesTest::secondInRing, y -> y.round(1), -3);
        x = thirdInRing();
        Checks.due("one is enough, the third would not be there", x, x.round(1), 1, "1");
    }

    /** From 6 it is 999 STEPS, from 7 one more; behind each such walker all POSTS are as they were. */
    private static TurningPosts justRound() {
        TurningPosts x = Checks.on("4506;3133;6652;5536;46;5;6");
        String posts = "320310";
        for (int v = 1; v <= 6; v++) x.points(v, posts.charAt(v - 1) - '0');
        x.fits();
        return x;
    }

    private static TurningPosts secondInRing() {
        TurningPosts x = thirdInRing();
        x.comes(1, 1);
        x.goes(1);
        return x;
    }

    private static void follows() {
        Checks.of(21, "Which CROSSINGS (bits) one comes to who goes by POSTS as they are, without turning them (the first one, too): them; the ROW: 1 if he comes to THE INN, else 0, then how many WAYS he goes till he is there, or somewhere for the second time.");
        TurningPosts x = Checks.on("2;3;4;5;6;7;0");
        for (int v = 1; v <= 7; v++) Checks.due("from " + v, x, x.follows(v), 257 - (1 << v), "1 " + (8 - v));
        x = new TurningPosts();
        Checks.due("of one CROSSING", x, x.follows(1), 3, "1 1");
        Checks.of(21, "NONE: none such, THE INN.");
        for (int v : NO_POST) Checks.refused("follows(" + v + ")", Checks::busy, y -> y.follows(v), -1);
    }

    private static void followsRings() {
        Checks.of(21, "somewhere for the second time.");
        TurningPosts x = Checks.on("2;3;4;5;6;7;10");
        for (int v = 1; v <= 7; v++) Checks.due("a ring of seven from " + v, x, x.follows(v), 254, "0 7");
        x = Checks.on("2;3;4;5;6;7;60");
        Checks.due("into a ring of two", x, x.follows(1), 254, "0 7");
        Checks.due("from the ring", x, x.follows(7), 192, "0 2");
        x.points(7, 1);
        Checks.due("to THE INN", x, x.follows(1), 255, "1 7");
        x = Checks.on("20;1");
        Checks.due("a ring of two from 1", x, x.follows(1), 6, "0 2");
        Checks.due("a ring of two from 2", x, x.follows(2), 6, "0 2");
    }
}
