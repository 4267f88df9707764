/** Promises 30 to 32: by chance: the mean of WAYS, whom one passes, where one is. */
public final class ChanceTest {
    private static final int[] NO_CROSSINGS = {-1, 4, 8, Integer.MAX_VALUE, Integer.MIN_VALUE};

    public static void main(String[] args) {
        mean();
        meets();
        odds();
        Checks.end("ChanceTest");
    }

    private static void mean() {
        TurningPosts x = Checks.on("02;13;20");
        Checks.due("from 1", x, x.mean(1), 3, "3 1");
        Checks.due("from 2", x, x.mean(2), 4, "4 1");
        Checks.due("from 3", x, x.mean(3), 3, "3 1");
        for (int v : NO_CROSSINGS) Checks.due("mean(" + v + ")", x.mean(v), -1);
        Checks.due("mean(0)", x.mean(0), -1);
        Checks.due("the ROW stays", Checks.row(x), "3 1");
        x = Checks.on("0002;1");
        Checks.due("a part more", x, x.mean(1), 1, "5 3");
        Checks.due("two parts more", x, x.mean(2), 2, "8 3");
        x.points(1, 3);
        Checks.rule(x, "0");
        Checks.due("POSTS and RULE aside", x, x.mean(1), 1, "5 3");
        x = Checks.on("0777;1777;2777;3777;4777;5777;6666");
        Checks.due("a long one", x, x.mean(7), 9556, "9556 1");
        x = Checks.on("00;1;1");
        Checks.due("straight", x, x.mean(3), 2, "2 1");
    }

    private static void meets() {
        TurningPosts x = Checks.on("02;13;20");
        Checks.due("3 from 1", x, x.meets(1, 3), 0, "1 3");
        Checks.due("3 from 2", x, x.meets(2, 3), 0, "2 3");
        Checks.due("2 from 1", x, x.meets(1, 2), 0, "1 2");
        Checks.due("the same", x, x.meets(3, 3), 0, "1 1");
        for (int v : NO_CROSSINGS) {
            Checks.due("meets(" + v + ", 1)", x.meets(v, 1), -1);
            Checks.due("meets(1, " + v + ")", x.meets(1, v), -1);
        }
        Checks.due("THE INN as the first", x.meets(0, 1), -1);
        Checks.due("THE INN as the other", x.meets(1, 0), -1);
        Checks.due("the ROW stays", Checks.row(x), "1 1");
        x = Checks.on("0;1;2");
        Checks.due("never", x, x.meets(1, 2), 0, "0 1");
        Checks.due("always", x, x.meets(3, 1), 0, "1 1");
        x = Checks.on("0002;1");
        Checks.due("one of four", x, x.meets(1, 2), 0, "1 4");
    }

    private static void odds() {
        TurningPosts x = Checks.on("02;13;20");
        int[][] calls = {{1, 0, 1}, {1, 0, 0}, {1, 1, 2}, {1, 2, 1}, {1, 2, 0}, {1, 2, 3}, {2, 2, 0}, {2, 1, 2}, {2, 4, 2}, {2, 8, 0}};
        String[] rows = {"1 1", "0 1", "1 2", "1 4", "1 2", "1 4", "1 2", "0 1", "1 4", "15 16"};
        for (int i = 0; i < calls.length; i++) {
            int[] call = calls[i];
            Checks.due("odds(" + call[0] + ", " + call[1] + ", " + call[2] + ")", x, x.odds(call[0], call[1], call[2]), 0, rows[i]);
        }
        for (int v : NO_CROSSINGS) {
            Checks.due("odds(" + v + ", 1, 1)", x.odds(v, 1, 1), -1);
            Checks.due("odds(1, 1, " + v + ")", x.odds(1, 1, v), -1);
        }
        Checks.due("THE INN as the first", x.odds(0, 1, 1), -1);
        for (int n : new int[] {-1, 9, Integer.MAX_VALUE, Integer.MIN_VALUE}) Checks.due("odds(1, " + n + ", 1)", x.odds(1, n, 1), -1);
        Checks.due("the ROW stays", Checks.row(x), "15 16");
        x = Checks.on("002;1");
        Checks.due("two of three", x, x.odds(1, 1, 0), 0, "2 3");
        Checks.due("at THE INN he stays", x, x.odds(1, 8, 0), 0, "80 81");
        Checks.due("the rest", x, x.odds(1, 8, 1), 0, "1 81");
        x = Checks.on("2223;0;0");
        Checks.due("three of four to one", x, x.odds(1, 1, 2), 0, "3 4");
        x = Checks.on("0222;1111");
        Checks.due("the smallest part", x, x.odds(1, 8, 1), 0, "81 256");
    }
}
