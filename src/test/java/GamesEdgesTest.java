import java.util.function.Supplier;

/** Edges that promises 47 to 50 name: a game of two crowds, another rule, who waits at rest, years drawn by a seed. */
public final class GamesEdgesTest {
    private static final int LEAST = Integer.MIN_VALUE;
    private static final int MOST = Integer.MAX_VALUE;

    public static void main(String[] args) {
        crowds();
        crowdsByPlay();
        crowdsRefused();
        law();
        lawOf1000();
        lawRefused();
        waits();
        waitsRefused();
        years();
        yearsThatCannotBe();
        yearsOfFull();
        yearsByHand();
        yearsRefused();
        Checks.end("GamesEdgesTest");
    }

    private static void crowds() {
        Checks.of(47, "Two send home by turns, out of two crowds of a and b (0 .. 30): any many of one, at least one, or as many of both; who sends the last one has won: 1 if the first one wins by best play, else 0; the ROW: the least move by which he does, how many of the first crowd, of the second (nothing without).");
        TurningPosts x = new TurningPosts();
        Checks.due("none to send: lost, nothing in the ROW", x, x.crowds(0, 0), 0, "");
        Checks.due("one of the first", x, x.crowds(1, 0), 1, "1 0");
        Checks.due("one of the second", x, x.crowds(0, 1), 1, "0 1");
        Checks.due("one of both", x, x.crowds(1, 1), 1, "1 1");
        Checks.due("30 of the first", x, x.crowds(30, 0), 1, "30 0");
        Checks.due("30 of the second", x, x.crowds(0, 30), 1, "0 30");
        Checks.due("30 of both", x, x.crowds(30, 30), 1, "30 30");
        Checks.due("lost", x, x.crowds(1, 2), 0, "");
        Checks.due("lost the other way round", x, x.crowds(2, 1), 0, "");
        Checks.due("the greatest lost", x, x.crowds(17, 28), 0, "");
        Checks.due("of three moves that win the least", x, x.crowds(2, 2), 1, "0 1");
    }

    /** All from 0 0 to 30 30, by what is lost to a move being won. */
    private static void crowdsByPlay() {
        boolean[][] lost = new boolean[31][31];
        for (int a = 0; a <= 30; a++) {
            for (int b = 0; b <= 30; b++) {
                String move = "";
                for (int x = 0; x <= a && move.isEmpty(); x++) {
                    for (int y = 0; y <= b && move.isEmpty(); y++) {
                        boolean can = x + y > 0 && (x == 0 || y == 0 || x == y);
                        if (can && lost[a - x][b - y]) move = x + " " + y;
                    }
                }
                lost[a][b] = move.isEmpty();
                TurningPosts one = new TurningPosts();
                Checks.due("crowds(" + a + ", " + b + ")", one, one.crowds(a, b), move.isEmpty() ? 0 : 1, move);
            }
        }
    }

    private static void crowdsRefused() {
        Checks.of(47, "NONE: others.");
        int[][] wrong = {{-1, 0}, {0, -1}, {31, 0}, {0, 31}, {31, 31}, {-1, 31}, {30, 31}, {31, 30}, {MOST, 0}, {0, MOST}, {LEAST, 0}, {0, LEAST}};
        for (int[] call : wrong) Checks.refused("crowds(" + call[0] + ", " + call[1] + ")", Checks::busy, y -> y.crowds(call[0], call[1]), -1);
    }

    private static TurningPosts ring() {
        TurningPosts x = Checks.on("20;1");
        Checks.rule(x, "0");
        return x;
    }

    private static void law() {
        Checks.of(48, "THE TEXT is another RULE (an empty one: none): in how many STEPS one who starts at the CROSSING of the greatest number is at THE INN by it, less by THE RULE (below 0, too; one who is not in 999 STEPS: 1000); the ROW: both.");
        TurningPosts x = ring();
        // By 1: 2 1 2 1 0; by 0 without end.
        Checks.due("none, as at first", x, Checks.law(x, ""), 4 - 1000, "4 1000");
        Checks.due("THE TEXT is empty", x.count(10), 0);
        Checks.due("THE RULE stays", x.post(1, 4), 0);
        Checks.due("both without end", x, Checks.law(x, "0"), 0, "1000 1000");
        Checks.rule(x, "");
        Checks.due("0", x, Checks.law(x, "0"), 1000 - 4, "1000 4");
        Checks.due("the same", x, Checks.law(x, "1"), 0, "4 4");
        Checks.due("none and none", x, Checks.law(x, ""), 0, "4 4");
        x = Checks.on("0;0;0;0;0;0;6");
        Checks.due("from 7", x, Checks.law(x, "9"), 0, "2 2");
        x = new TurningPosts();
        Checks.due("from 1", x, Checks.law(x, "-".repeat(39) + "1"), 0, "1 1");
        x = Checks.on("00;1110");
        x.points(2, 2);
        Checks.due("40 signs, no less", x, Checks.law(x, "1+".repeat(19) + "11"), 0, "2 2");
    }

    /** From 6, the greatest number, it is 999 STEPS by 1 each. */
    private static TurningPosts far() {
        TurningPosts x = Checks.on("0333;1336;5555;63;4333;2333");
        String posts = "120030";
        for (int v = 1; v <= 6; v++) x.points(v, posts.charAt(v - 1) - '0');
        return x;
    }

    private static void lawOf1000() {
        Checks.of(48, "one who is not in 999 STEPS: 1000");
        TurningPosts x = far();
        Checks.due("999", x, Checks.law(x, ""), 0, "999 999");
        Checks.rule(x, "0");
        int still = x.home(6) < 0 ? 1000 : x.home(6);
        Checks.due("999 less by THE RULE", x, Checks.law(x, "1"), 999 - still, "999 " + still);
        x = WalkersTest.far();
        Checks.due("it would be 1000, and is", x, Checks.law(x, ""), 0, "1000 1000");
        Checks.due("POSTS, STEPS stay", Checks.posts(x) + " " + x.count(3), "1 2 0 0 3 0 0 0");
    }

    private static void lawRefused() {
        Checks.of(48, "-10000 - p: the sign at p can't stand there (as rule()).");
        String[] laws = {"x", "+", "1+", "1234", "(d", "()", "d)", "1<2<3", "(((((1", "12 ", "-"};
        int[] at = {0, 0, 2, 3, 2, 1, 1, 3, 4, 2, 1};
        for (int i = 0; i < laws.length; i++) Checks.refused("law " + laws[i], Checks::busy, laws[i], TurningPosts::law, -10000 - at[i]);
        String ones = "1+".repeat(40);
        Checks.due("39 signs", Checks.law(new TurningPosts(), ones.substring(0, 39)), 0);
        Checks.refused("40 that end too early", Checks::busy, ones.substring(0, 40), TurningPosts::law, -10040);
        Checks.refused("41", Checks::busy, ones.substring(0, 41), TurningPosts::law, -10040);
        Checks.refused("80", Checks::busy, ones, TurningPosts::law, -10040);
        Checks.refused("41, the 40th can't stand", Checks::busy, ones.substring(0, 39) + "d1", TurningPosts::law, -10039);
        Checks.refused("43, the 42nd can't stand", Checks::busy, ones.substring(0, 41) + "xx", TurningPosts::law, -10040);
        lawAsRule();
    }

    /** Texts that may be a RULE, or not, by what rule() says of them. */
    private static void lawAsRule() {
        Checks.of(48, "the sign at p can't stand there (as rule()).");
        String[] parts = {"1", "12", "123", "1234", "12:", "d", "dd", "x", "-", "--k", "+", "1+", "1+c", "c*n", "h/i", "w-k", "(", "((((d))))", "(((((d)))))", "(d", "d)", "()", "1<2", "1<2<3", "(1<2)=1", "i>", "=1", "n=h", "1 "};
        for (String first : parts) {
            for (String join : new String[] {"", "+", "<", "*("}) {
                for (String second : parts) {
                    String text = first + join + second + (join.endsWith("(") ? ")" : "");
                    TurningPosts x = new TurningPosts();
                    TurningPosts y = new TurningPosts();
                    int rule = Checks.rule(x, text);
                    int law = Checks.law(y, text);
                    Checks.due("law " + text, law, rule < 0 ? rule - 9999 : 0);
                    Checks.due("the ROW behind law " + text, Checks.row(y), rule < 0 ? "" : "1 1");
                }
            }
        }
    }

    private static void waits() {
        Checks.of(49, "Two wait at a post for x and y (0 .. 9) hours for one who knows the way; he comes at hour v (0 .. 9): who waits less than that goes wrong, which costs 6; who waits longest, alone, buys supper, which costs 2; each hour costs 1. Pairs by which neither would pay less by another number alone: how many; the ROW: the least (nothing without).");
        // Both for v cost v each; one less would cost 6 for going wrong, so that up to 6 it is at rest, and 0 0 from 4 on:
        // alone one would pay v + 2, with the other one 6. At 4 and 5 both can be; at 6 as well, where v costs as much as 6.
        TurningPosts x = new TurningPosts();
        int[] answers = {1, 1, 1, 1, 2, 2, 2, 1, 1, 1};
        String[] rows = {"0 0", "1 1", "2 2", "3 3", "0 0", "0 0", "0 0", "0 0", "0 0", "0 0"};
        for (int v = 0; v <= 9; v++) Checks.due("waits(" + v + ")", x, x.waits(v), answers[v], rows[v]);
    }

    private static void waitsRefused() {
        Checks.of(49, "NONE: another v.");
        for (int v : new int[] {-1, 10, MOST, LEAST}) Checks.refused("waits(" + v + ")", Checks::busy, y -> y.waits(v), -1);
    }

    /** The DRAWS of a seed, without ints. */
    private static final class Draws {
        private long r;

        Draws(int seed) {
            r = seed & 0xffffffffL;
        }

        int of(int n) {
            r = (r * 1103515245L + 12345L) % 4294967296L;
            return (int) (r / 65536 % n);
        }
    }

    /** Does n times by calls what years() tells of: how many came to THE INN; and STEPS. */
    private static int[] byCalls(TurningPosts x, int seed, int n) {
        Draws draws = new Draws(seed);
        int came = 0;
        int steps = 0;
        for (int time = 0; time < n; time++) {
            int what = draws.of(4);
            int v = draws.of(x.count(0) - 1) + 1;
            if (what <= 1) x.comes(v, 1);
            if (what == 2) {
                int to = x.goes(v);
                if (to == 0) came++;
                if (to >= 0) steps++;
            }
            if (what == 3 && x.bursts(v) >= 0) {
                for (int k = 0; k < x.post(v, 0); k++) came += x.way(v, k) == 0 ? 1 : 0;
            }
        }
        return new int[] {came, steps};
    }

    private static void yearsAsByCalls(String what, Supplier<TurningPosts> made, int seed, int n) {
        TurningPosts x = made.get();
        TurningPosts y = made.get();
        int[] want = byCalls(y, seed, n);
        Checks.due(what + ": years(" + seed + ", " + n + ")", x, x.years(seed, n), want[0], y.count(4) + " " + want[1]);
    }

    private static void years() {
        Checks.of(50, "n times (1 .. 60): a DRAW of 4 tells: 0, 1: a DRAW of CROSSINGS but THE INN, and 1, tells where one comes (as comes() of 1, if it can be); 2: so, of which one goes a STEP (goes(), if it can be); 3: so, which BURSTS (if it can): how many came to THE INN in these (whole); the ROW: walkers of all CROWDS then, STEPS in these (whole).");
        for (int seed = 0; seed < 40; seed++) {
            for (int n : new int[] {1, 2, 3, 30, 59, 60}) {
                yearsAsByCalls("of one WAY", TurningPosts::new, seed, n);
                yearsAsByCalls("of busy", Checks::busy, seed, n);
                yearsAsByCalls("of seven", () -> Checks.on("02;03;124;53;46;57;660"), seed, n);
            }
        }
    }

    private static TurningPosts full() {
        TurningPosts x = Checks.on("22;10;0");
        for (int v = 1; v <= 3; v++) x.comes(v, 99);
        return x;
    }

    private static void yearsThatCannotBe() {
        Checks.of(50, "(as comes() of 1, if it can be)");
        for (int seed = 0; seed < 60; seed++) yearsAsByCalls("of CROWDS of 99", GamesEdgesTest::full, seed, 60);
        Checks.of(50, "(goes(), if it can be)");
        for (int seed = 0; seed < 60; seed++) yearsAsByCalls("of empty CROWDS", () -> Checks.on("0000;0000;0000"), seed, 20);
        Checks.of(50, "which BURSTS (if it can)");
        for (int seed = 0; seed < 60; seed++) yearsAsByCalls("of CROWDS of 3", GamesEdgesTest::nearlyBursting, seed, 9);
    }

    /** By four WAYS each, one too few. */
    private static TurningPosts nearlyBursting() {
        TurningPosts x = Checks.on("0023;0013;0012");
        for (int v = 1; v <= 3; v++) x.comes(v, 3);
        return x;
    }

    private static TurningPosts fullInn() {
        TurningPosts x = Checks.on("000;0;0;0;0;0;0");
        for (int time = 0; time < 15; time++) {
            for (int v = 1; v <= 7; v++) x.comes(v, 99);
            x.calms();
        }
        for (int v = 1; v <= 7; v++) x.comes(v, 50);
        return x;
    }

    private static void yearsOfFull() {
        Checks.of(50, "how many came to THE INN in these (whole)");
        TurningPosts x = fullInn();
        Checks.due("HOUSED", x.count(2), 9999);
        for (int seed = 0; seed < 5; seed++) yearsAsByCalls("of HOUSED 9999", GamesEdgesTest::fullInn, seed, 60);
        Checks.due("some came", x.years(1, 60) > 5, true);
        Checks.due("HOUSED stays", x.count(2), 9999);
        Checks.of(50, "STEPS in these (whole)");
        TurningPosts y = farGone();
        Checks.due("STEPS", y.count(3), 99999);
        for (int seed = 0; seed < 5; seed++) yearsAsByCalls("of STEPS 99999", GamesEdgesTest::farGone, seed, 20);
        y.years(1, 20);
        Checks.due("some went", y.row(1) > 0, true);
        Checks.due("STEPS stay", y.count(3), 99999);
    }

    private static TurningPosts farGone() {
        TurningPosts x = TermsEdgesTest.longWay();
        x.comes(1, 90);
        x.goes(1);
        x.comes(7, 90);
        return x;
    }

    private static void yearsByHand() {
        Checks.of(50, "A DRAW of n: R = R times 1103515245 + 12345 (as ints; R is seed at first), (R without sign, by 65536) % n.");
        // Of seed 0: 12345, by 65536 0: one comes, to 1.
        TurningPosts x = new TurningPosts();
        Checks.due("one comes", x, x.years(0, 1), 0, "1 0");
        for (int seed : new int[] {-1, 1, 12345, -12345, 65535, 65536, -65536, MOST, LEAST, MOST - 1, LEAST + 1, 1103515245, -1103515245}) {
            for (int n : new int[] {1, 2, 13, 60}) {
                yearsAsByCalls("of one WAY", TurningPosts::new, seed, n);
                yearsAsByCalls("of busy", Checks::busy, seed, n);
            }
        }
        TurningPosts busy = Checks.busy();
        busy.years(5, 60);
        String row = Checks.row(busy);
        busy.years(6, 60);
        busy.years(5, 60);
        Checks.due("R is the seed each time", Checks.row(busy), row);
    }

    private static void yearsRefused() {
        Checks.of(50, "NONE: another n.");
        for (int n : new int[] {0, 61, -1, MOST, LEAST}) Checks.refused("years(1, " + n + ")", Checks::busy, y -> y.years(1, n), -1);
        Checks.due("60", Checks.busy().years(1, 60) >= 0, true);
        Checks.due("1", Checks.busy().years(1, 1) >= 0, true);
    }
}
