/** Edges that promises 30 to 32 name: by chance, how many WAYS in the mean, whom one passes, where one is. */
public final class ChanceEdgesTest {
    private static final int LEAST = Integer.MIN_VALUE;
    private static final int MOST = Integer.MAX_VALUE;
    /** Of a net of three LINES. */
    private static final int[] NO_CROSSING = {-1, 4, 7, 8, MOST, LEAST};

    public static void main(String[] args) {
        postsAside();
        mean();
        meets();
        meetsRefused();
        odds();
        oddsOfInn();
        oddsRefused();
        Checks.end("ChanceEdgesTest");
    }

    private static void postsAside() {
        Checks.of(0, "by chance (one who goes each of the WAYS of a CROSSING as likely, each time anew; POSTS aside).");
        TurningPosts x = Checks.on("0002;1");
        for (int post = 0; post < 4; post++) {
            x.points(1, post);
            Checks.rule(x, "" + post);
            x.comes(1, 5);
            Checks.due("mean by POST " + post, x, x.mean(1), 1, "5 3");
            Checks.due("meets by POST " + post, x, x.meets(1, 2), 0, "1 4");
            Checks.due("odds by POST " + post, x, x.odds(1, 1, 0), 0, "3 4");
        }
    }

    private static void mean() {
        Checks.of(30, "How many WAYS he goes in the mean from a CROSSING to THE INN: the whole part; the ROW: it as a fraction.");
        TurningPosts x = new TurningPosts();
        Checks.due("one", x, x.mean(1), 1, "1 1");
        x = Checks.on("2;3;4;5;6;7;0");
        for (int v = 1; v <= 7; v++) Checks.due("a line from " + v, x, x.mean(v), 8 - v, 8 - v + " 1");
        x = Checks.on("02;1");
        Checks.due("two and two more, half of the time", x, x.mean(1), 3, "3 1");
        x = Checks.on("0002;1;0222");
        Checks.due("5 by 3", x, x.mean(1), 1, "5 3");
        Checks.due("8 by 3", x, x.mean(2), 2, "8 3");
        Checks.due("1 and 3 times 8 by 12: 3, whole", x, x.mean(3), 3, "3 1");
        x = Checks.on("0222;1110");
        // a = 1 + 3 b / 4, b = 1 + 3 a / 4: 4.
        Checks.due("4", x, x.mean(1), 4, "4 1");
        x = Checks.on("0777;1777;2777;3777;4777;5777;6666");
        Checks.due("the most", x, x.mean(7), 9556, "9556 1");
        Checks.of(30, "NONE: none such, THE INN.");
        Checks.refused("mean(0)", Checks::busy, y -> y.mean(0), -1);
        for (int v : NO_CROSSING) Checks.refused("mean(" + v + ")", Checks::busy, y -> y.mean(v), -1);
    }

    private static void meets() {
        Checks.of(31, "How likely he passes, from a CROSSING, through another one, to, before THE INN (the same: 1): 0; the ROW: the fraction.");
        TurningPosts x = Checks.on("2;3;4;5;6;7;0");
        for (int v = 1; v <= 7; v++) {
            for (int to = 1; to <= 7; to++) Checks.due("from " + v + " through " + to, x, x.meets(v, to), 0, to < v ? "0 1" : "1 1");
        }
        x = new TurningPosts();
        Checks.due("the same of one", x, x.meets(1, 1), 0, "1 1");
        x = Checks.on("0022;0003;1");
        Checks.due("two of four", x, x.meets(1, 2), 0, "1 2");
        Checks.due("one of four of these", x, x.meets(1, 3), 0, "1 8");
        Checks.due("the same: 1, though he may not come back", x, x.meets(2, 2), 0, "1 1");
        x = Checks.on("0002;0001");
        Checks.due("one of four from 1", x, x.meets(1, 2), 0, "1 4");
        Checks.due("one of four from 2", x, x.meets(2, 1), 0, "1 4");
        x = Checks.on("02;13;20");
        Checks.due("by turns there and back", x, x.meets(1, 3), 0, "1 3");
        Checks.due("two of three", x, x.meets(2, 3), 0, "2 3");
    }

    private static void meetsRefused() {
        Checks.of(31, "NONE: none such, THE INN (both).");
        Checks.refused("meets(0, 1)", Checks::busy, y -> y.meets(0, 1), -1);
        Checks.refused("meets(1, 0)", Checks::busy, y -> y.meets(1, 0), -1);
        Checks.refused("meets(0, 0)", Checks::busy, y -> y.meets(0, 0), -1);
        for (int v : NO_CROSSING) {
            Checks.refused("meets(" + v + ", 1)", Checks::busy, y -> y.meets(v, 1), -1);
            Checks.refused("meets(1, " + v + ")", Checks::busy, y -> y.meets(1, v), -1);
            Checks.refused("meets(" + v + ", " + v + ")", Checks::busy, y -> y.meets(v, v), -1);
        }
    }

    private static void odds() {
        Checks.of(32, "How likely he is, n WAYS (0 .. 8) on, at a CROSSING, to (at THE INN he stays): 0; the ROW: the fraction.");
        TurningPosts x = Checks.on("02;13;20");
        Checks.due("0 WAYS, there", x, x.odds(3, 0, 3), 0, "1 1");
        Checks.due("0 WAYS, elsewhere", x, x.odds(3, 0, 2), 0, "0 1");
        Checks.due("0 WAYS, at THE INN", x, x.odds(3, 0, 0), 0, "0 1");
        Checks.due("one WAY", x, x.odds(3, 1, 2), 0, "1 2");
        Checks.due("two WAYS", x, x.odds(3, 2, 3), 0, "1 4");
        x = Checks.on("0222;1111");
        String[] back = {"1 1", "0 1", "3 4", "0 1", "9 16", "0 1", "27 64", "0 1", "81 256"};
        for (int n = 0; n <= 8; n++) Checks.due(n + " WAYS, at 1", x, x.odds(1, n, 1), 0, back[n]);
        x = Checks.on("2;3;4;5;6;7;0");
        for (int n = 0; n <= 8; n++) Checks.due(n + " WAYS on a line", x, x.odds(1, n, n < 7 ? n + 1 : 0), 0, "1 1");
        x = Checks.on("023;013;012");
        // Each time one of three goes to THE INN.
        Checks.due("8 WAYS by thirds", x, x.odds(1, 8, 0), 0, 6561 - 256 + " 6561");
        x = Checks.on("2345;0013;0024;0035;0042");
        Checks.due("8 WAYS by fourths, all places", sumOfOdds(x, 8), 65536);
    }

    /** Of 65536, all places together. */
    private static long sumOfOdds(TurningPosts x, int n) {
        long all = 0;
        for (int v = 0; v <= 5; v++) {
            x.odds(1, n, v);
            all += 65536 / x.row(1) * x.row(0);
        }
        return all;
    }

    private static void oddsOfInn() {
        Checks.of(32, "(at THE INN he stays)");
        TurningPosts x = new TurningPosts();
        for (int n = 1; n <= 8; n++) Checks.due(n + " WAYS, at THE INN", x, x.odds(1, n, 0), 0, "1 1");
        for (int n = 1; n <= 8; n++) Checks.due(n + " WAYS, not at 1", x, x.odds(1, n, 1), 0, "0 1");
        x = Checks.on("002;1");
        String[] there = {"0 1", "2 3", "2 3", "8 9", "8 9", "26 27", "26 27", "80 81", "80 81"};
        for (int n = 0; n <= 8; n++) Checks.due(n + " WAYS, two of three", x, x.odds(1, n, 0), 0, there[n]);
    }

    private static void oddsRefused() {
        Checks.of(32, "NONE: others, THE INN as the first.");
        for (int n : new int[] {-1, 9, MOST, LEAST}) Checks.refused("odds(1, " + n + ", 1)", Checks::busy, y -> y.odds(1, n, 1), -1);
        Checks.refused("odds(0, 0, 0)", Checks::busy, y -> y.odds(0, 0, 0), -1);
        Checks.refused("odds(0, 1, 1)", Checks::busy, y -> y.odds(0, 1, 1), -1);
        for (int v : NO_CROSSING) {
            Checks.refused("odds(" + v + ", 1, 1)", Checks::busy, y -> y.odds(v, 1, 1), -1);
            Checks.refused("odds(1, 1, " + v + ")", Checks::busy, y -> y.odds(1, 1, v), -1);
        }
        Checks.due("THE INN as the other", Checks.busy().odds(1, 8, 0), 0);
    }
}
