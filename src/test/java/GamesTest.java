/** Promises 47 to 50: a game of two crowds, how another rule would do, who waits at rest, years drawn by a seed. */
public final class GamesTest {
    public static void main(String[] args) {
        crowds();
        law();
        lawFails();
        waits();
        yearsOfOne();
        yearsOfThree();
        yearsRefused();
        Checks.end("GamesTest");
    }

    private static void crowds() {
        TurningPosts x = new TurningPosts();
        int[][] lost = {{0, 0}, {1, 2}, {2, 1}, {3, 5}, {4, 7}, {6, 10}, {8, 13}, {11, 18}, {18, 11}, {17, 28}, {28, 17}};
        for (int[] pair : lost) Checks.due("crowds " + pair[0] + " " + pair[1], x, x.crowds(pair[0], pair[1]), 0, "");
        int[][] won = {{1, 0}, {0, 5}, {1, 1}, {2, 2}, {30, 30}, {0, 30}, {30, 0}, {3, 3}, {5, 5}, {10, 7}, {1, 3}, {2, 3}};
        String[] rows = {"1 0", "0 5", "1 1", "0 1", "30 30", "0 30", "30 0", "3 3", "0 2", "0 1", "0 1", "0 2"};
        for (int i = 0; i < won.length; i++) Checks.due("crowds " + won[i][0] + " " + won[i][1], x, x.crowds(won[i][0], won[i][1]), 1, rows[i]);
        int many = 0;
        for (int a = 0; a <= 15; a++) {
            for (int b = 0; b <= 15; b++) many += 1 - x.crowds(a, b);
        }
        // 0 0, and 1 2, 3 5, 4 7, 6 10, 8 13, 9 15 in both orders.
        Checks.due("lost ones up to 15", many, 13);
        int[][] wrong = {{-1, 0}, {0, -1}, {31, 0}, {0, 31}, {Integer.MAX_VALUE, 1}, {1, Integer.MIN_VALUE}};
        x.crowds(1, 0);
        for (int[] pair : wrong) Checks.due("crowds " + pair[0] + " " + pair[1], x.crowds(pair[0], pair[1]), -1);
        Checks.due("the ROW stays", Checks.row(x), "1 0");
    }

    private static void law() {
        TurningPosts x = Checks.on("02;13;20");
        Checks.due("none, as THE RULE", x, Checks.law(x, ""), 0, "3 3");
        Checks.due("0 does no worse", x, Checks.law(x, "0"), 0, "3 3");
        x.points(2, 1);
        Checks.due("a ring", x, Checks.law(x, "0"), 997, "1000 3");
        Checks.due("THE RULE stays", x.post(1, 4), 1);
        Checks.due("THE TEXT is empty", x.count(10), 0);
        Checks.due("POSTS stay", Checks.posts(x), "0 1 0");
        Checks.rule(x, "0");
        Checks.due("out of a ring", x, Checks.law(x, ""), -997, "3 1000");
        Checks.due("both in a ring", x, Checks.law(x, "2*2"), 0, "1000 1000");
        Checks.due("THE RULE is 0", x.post(1, 4), 0);
        Checks.due("STEPS stay", x.count(3), 0);
        x = WalkersTest.far();
        Checks.due("1000 STEPS are 1000", x, Checks.law(x, ""), 0, "1000 1000");
        x = Checks.on("20;1");
        Checks.rule(x, "0");
        x.points(1, 1);
        Checks.due("alike from 2", x, Checks.law(x, "9"), 0, "2 2");
        x = Checks.on("0;110;22");
        Checks.due("from the greatest number", x, Checks.law(x, "n"), 0, "3 3");
    }

    private static void lawFails() {
        TurningPosts x = new TurningPosts();
        x.ready();
        String[] laws = {"x", "d+", "1234", "(d", "1<2<3", "()", "d)", "-".repeat(40), "-".repeat(41), "1+".repeat(20), "1+".repeat(20) + "1"};
        int[] answers = {-10000, -10002, -10003, -10002, -10003, -10001, -10001, -10040, -10040, -10040, -10040};
        for (int i = 0; i < laws.length; i++) {
            Checks.due("law " + laws[i], Checks.law(x, laws[i]), answers[i]);
            Checks.due("law " + laws[i] + ": THE TEXT is empty", x.count(10), 0);
        }
        Checks.due("the ROW stays", Checks.row(x), "0 0");
        Checks.due("THE RULE stays", x.post(1, 4), 1);
    }

    private static void waits() {
        TurningPosts x = new TurningPosts();
        // Up to 3 both come for sure; at 4 and 5 both wait or none does; at 6 as well; later none does.
        int[] answers = {1, 1, 1, 1, 2, 2, 2, 1, 1, 1};
        String[] rows = {"0 0", "1 1", "2 2", "3 3", "0 0", "0 0", "0 0", "0 0", "0 0", "0 0"};
        for (int v = 0; v <= 9; v++) Checks.due("waits " + v, x, x.waits(v), answers[v], rows[v]);
        for (int v : new int[] {-1, 10, Integer.MAX_VALUE, Integer.MIN_VALUE}) Checks.due("waits " + v, x.waits(v), -1);
        Checks.due("the ROW stays", Checks.row(x), "0 0");
    }

    private static int next(int r) {
        return (int) ((r * 1103515245L + 12345L) & 0xffffffffL);
    }

    private static int draw(int r, int n) {
        return (int) (((r & 0xffffffffL) / 65536L) % n);
    }

    private static void yearsOfOne() {
        for (int seed : new int[] {0, 1, -1, 7, 123456789, Integer.MAX_VALUE, Integer.MIN_VALUE}) {
            TurningPosts x = new TurningPosts();
            int r = seed;
            int crowd = 0;
            int came = 0;
            int steps = 0;
            for (int n = 1; n <= 60; n++) {
                r = next(r);
                int what = draw(r, 4);
                r = next(r);
                if (what < 2) crowd++;
                else if (crowd > 0) {
                    crowd--;
                    came++;
                    steps += what == 2 ? 1 : 0;
                }
                Checks.due("years(" + seed + ", " + n + ")", x, x.years(seed, n), came, crowd + " " + steps);
            }
            Checks.due("nothing changes", x.count(2) + x.count(3) + x.count(4) + x.count(8), 0);
        }
    }

    private static void yearsOfThree() {
        TurningPosts x = Checks.on("00;10;0");
        x.comes(1, 99);
        x.comes(2, 99);
        x.comes(3, 99);
        int r = 5;
        int came = 0;
        int steps = 0;
        int[] crowd = {0, 99, 99, 99};
        int post = 0;
        for (int n = 1; n <= 60; n++) {
            r = next(r);
            int what = draw(r, 4);
            r = next(r);
            int v = draw(r, 3) + 1;
            if (what < 2) {
                if (crowd[v] < 99) crowd[v]++;
            } else if (what == 2) {
                steps++;
                crowd[v]--;
                int to = v == 2 ? 1 - post : 0;
                if (v == 2) post = 1 - post;
                if (to == 0) came++;
                crowd[to]++;
            } else {
                crowd[v] -= v == 3 ? 1 : 2;
                came += v == 1 ? 2 : 1;
                if (v == 2) crowd[1]++;
            }
            Checks.due("years(5, " + n + ")", x, x.years(5, n), came, (crowd[1] + crowd[2] + crowd[3]) + " " + steps);
        }
        Checks.due("nothing changes", Checks.crowds(x) + " " + Checks.posts(x), "99 99 99 0 0 0");
    }

    private static void yearsRefused() {
        TurningPosts x = new TurningPosts();
        x.ready();
        for (int n : new int[] {0, 61, -1, Integer.MAX_VALUE, Integer.MIN_VALUE}) Checks.due("years(1, " + n + ")", x.years(1, n), -1);
        Checks.due("the ROW stays", Checks.row(x), "0 0");
    }
}
