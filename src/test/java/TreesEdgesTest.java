/** Edges that promises 22 to 29 name: POSTS that make A TREE, how they are mended, the fewest WAYS, gates, rings of WAYS. */
public final class TreesEdgesTest {
    private static final int LEAST = Integer.MIN_VALUE;
    private static final int MOST = Integer.MAX_VALUE;
    /** Of a net of three LINES. */
    private static final int[] NO_CROSSING = {-1, 4, 7, 8, 31, 32, MOST, LEAST};
    private static final String LINE = "2;3;4;5;6;7;0";
    private static final String ALL_HOME = "0000;0000;0000;0000;0000;0000;0000";
    /** Of this net there are 999 TREES. */
    private static final String TREES_999 = "4264;0314;02;0333;222;0042";
    /** Of this net there are 1000 TREES. */
    private static final String TREES_1000 = "5500;300;102;0126;242;521";

    public static void main(String[] args) {
        tree();
        trees();
        plants();
        plantsInOrder();
        plantsRefused();
        grown();
        grownOfEach();
        mends();
        mendsLeast();
        route();
        routeRefused();
        gates();
        parish();
        Checks.end("TreesEdgesTest");
    }

    private static void point(TurningPosts x, String posts) {
        for (int v = 1; v <= posts.length(); v++) x.points(v, posts.charAt(v - 1) - '0');
    }

    private static TurningPosts on(String net, String posts) {
        TurningPosts x = Checks.on(net);
        point(x, posts);
        return x;
    }

    private static void tree() {
        Checks.of(22, "From how many CROSSINGS (not 0) one comes to THE INN by POSTS as they are, without turning them: how many; the ROW: 1 if from all (they are A TREE), else 0, then how many rings they make.");
        TurningPosts x = new TurningPosts();
        Checks.due("from the only one", x, x.tree(), 1, "1 0");
        x = Checks.on(LINE);
        Checks.due("from all seven", x, x.tree(), 7, "1 0");
        x = Checks.on("2;3;4;5;6;7;10");
        Checks.due("from none, one ring of seven", x, x.tree(), 0, "0 1");
        x = Checks.on("20;1;40;3;60;5;0");
        Checks.due("three rings, and from 7", x, x.tree(), 1, "0 3");
        x = Checks.on("20;1;40;3;60;5;1");
        Checks.due("three rings, 7 comes to one", x, x.tree(), 0, "0 3");
        point(x, "100010");
        Checks.due("one ring, {3, 4}", x, x.tree(), 5, "0 1");
    }

    private static void trees() {
        Checks.of(23, "In how many ways POSTS can be set so that they are A TREE: in how many; the ROW: in how many they can be set at all.");
        TurningPosts x = new TurningPosts();
        Checks.due("of one WAY", x, x.trees(), 1, "1");
        x = Checks.on(LINE);
        Checks.due("of seven", x, x.trees(), 1, "1");
        x = Checks.on(ALL_HOME);
        Checks.due("all", x, x.trees(), 16384, "16384");
        x = Checks.on("2;3;4;5;6;7;1110");
        Checks.due("one of four", x, x.trees(), 1, "4");
        x = Checks.on(TREES_1000);
        Checks.due("1000", x, x.trees(), 1000, "" + 4 * 3 * 3 * 4 * 3 * 3);
    }

    private static void plants() {
        Checks.of(24, "TREE n (0 .. 999) of all, as rows of the numbers of POSTS of CROSSINGS 1, 2, .., the least one 0: 0; the ROW: it.");
        TurningPosts x = Checks.on("02;13;20");
        String[] rows = {"0 0 0", "0 0 1", "0 1 1", "1 1 1"};
        for (int n = 0; n < 4; n++) Checks.due("TREE " + n, x, x.plants(n), 0, rows[n]);
        x = new TurningPosts();
        Checks.due("the only one of one", x, x.plants(0), 0, "0");
        x = Checks.on(ALL_HOME);
        Checks.due("the first one", x, x.plants(0), 0, "0 0 0 0 0 0 0");
        Checks.due("TREE 3", x, x.plants(3), 0, "0 0 0 0 0 0 3");
        Checks.due("TREE 4", x, x.plants(4), 0, "0 0 0 0 0 1 0");
        // 999 is 33213 by fours.
        Checks.due("TREE 999", x, x.plants(999), 0, "0 0 3 3 2 1 3");
        x = Checks.on(TREES_1000);
        Checks.due("the last one of 1000", x, x.plants(999), 0, lastTree(x));
        Checks.due("it is the last one", grownAs(x), 999);
        x = Checks.on("20;3;1");
        Checks.due("the least that is A TREE", x, x.plants(0), 0, "1 0 0");
    }

    /** Of all settings that are A TREE the greatest row, by trying them from the greatest one on. */
    private static String lastTree(TurningPosts like) {
        TurningPosts x = Checks.on(TREES_1000);
        int[] degrees = new int[7];
        int settings = 1;
        for (int v = 1; v <= 6; v++) {
            degrees[v] = like.post(v, 0);
            settings *= degrees[v];
        }
        String row = "";
        for (int setting = settings - 1; setting >= 0 && row.isEmpty(); setting--) {
            int rest = setting;
            for (int v = 6; v >= 1; v--) {
                x.points(v, rest % degrees[v]);
                rest /= degrees[v];
            }
            if (x.tree() == 6) row = Checks.posts(x);
        }
        like.plants(999);
        return row;
    }

    /** Which TREE it is that the ROW tells. */
    private static long grownAs(TurningPosts x) {
        String row = Checks.row(x);
        point(x, row.replace(" ", ""));
        return x.grown();
    }

    /** All that there are, in order, against rows of POSTS tried by hand. */
    private static void plantsInOrder() {
        for (String net : new String[] {"02;13;20", TREES_999, "4002;310;4211;00;63;1"}) {
            int n = 0;
            TurningPosts x = Checks.on(net);
            String[] lines = (";" + net).split(";");
            int[] row = new int[lines.length];
            for (int v = row.length - 1; v > 0; v = next(lines, row)) {
                if (!isTree(lines, row)) continue;
                if (n % 50 == 0) x = Checks.on(net);
                Checks.due("TREE " + n + " of " + net, x, x.plants(n), 0, told(row));
                n++;
            }
            Checks.due("TREES of " + net, x.trees(), n);
            Checks.due("no more of " + net, x.plants(n), -2);
        }
    }

    /** The next row of POSTS: where a number was raised; 0 if there is none. */
    private static int next(String[] lines, int[] row) {
        for (int v = row.length - 1; v > 0; v--) {
            row[v]++;
            if (row[v] < lines[v].length()) return v;
            row[v] = 0;
        }
        return 0;
    }

    private static boolean isTree(String[] lines, int[] row) {
        for (int v = 1; v < row.length; v++) {
            int at = v;
            for (int gone = 0; gone < row.length && at != 0; gone++) at = lines[at].charAt(row[at]) - '0';
            if (at != 0) return false;
        }
        return true;
    }

    private static String told(int[] row) {
        StringBuilder all = new StringBuilder();
        for (int v = 1; v < row.length; v++) all.append(v == 1 ? "" : " ").append(row[v]);
        return all.toString();
    }

    private static void plantsRefused() {
        Checks.of(24, "-2: there are not so many");
        for (int n : new int[] {4, 5, 998, 999}) Checks.refused("TREE " + n + " of four", Checks::busy, y -> y.plants(n), -2);
        Checks.due("TREE 3 of four", Checks.busy().plants(3), 0);
        Checks.due("TREE 1 of one", new TurningPosts().plants(1), -2);
        Checks.due("there are", Checks.on(TREES_999).trees(), 999);
        Checks.due("TREE 998 of 999", Checks.on(TREES_999).plants(998), 0);
        Checks.due("TREE 999 of 999", Checks.on(TREES_999).plants(999), -2);
        Checks.due("TREE 999 of 1000", Checks.on(TREES_1000).plants(999), 0);
        Checks.of(24, "NONE: another n.");
        for (int n : new int[] {-1, 1000, 1001, MOST, LEAST}) {
            Checks.refused("TREE " + n, Checks::busy, y -> y.plants(n), -1);
            Checks.due("TREE " + n + " of 16384", Checks.on(ALL_HOME).plants(n), -1);
        }
    }

    private static void grown() {
        Checks.of(25, "Which one of all TREES POSTS are now (from 0 on): it.");
        Checks.due("of one WAY", new TurningPosts().grown(), 0);
        Checks.due("the first one of 16384", Checks.on(ALL_HOME).grown(), 0);
        Checks.due("the second one", on(ALL_HOME, "0000001").grown(), 1);
        Checks.due("TREE 999", on(ALL_HOME, "0033213").grown(), 999);
        Checks.due("TREE 1000, too", on(ALL_HOME, "0033220").grown(), 1000);
        Checks.due("the last one", on(ALL_HOME, "3333333").grown(), 16383);
        String[] posts = {"000", "001", "011", "111"};
        for (int n = 0; n < 4; n++) Checks.due("TREE of " + posts[n], on("02;13;20", posts[n]).grown(), n);
        TurningPosts x = Checks.on(ALL_HOME);
        x.crowds(1, 1);
        x.grown();
        Checks.due("no ROW is told", Checks.row(x), "1 1");
        Checks.of(25, "-2: they are none.");
        for (String others : new String[] {"010", "100", "101", "110"}) {
            Checks.refused("of " + others, () -> on("02;13;20", others), TurningPosts::grown, -2);
        }
        Checks.due("a ring behind all", on("2;3;4;5;6;7;06", "0000001").grown(), -2);
        Checks.due("a ring ahead of all", on("20;1;0;0;0;0;0", "0").grown(), -2);
    }

    /** POSTS set each way that there is, in order: which TREE they are, or none. */
    private static void grownOfEach() {
        Checks.of(25, "Which one of all TREES POSTS are now (from 0 on): it. -2: they are none.");
        for (String net : new String[] {"02;13;20", "230;0133;2012", "0340;10;2041;1203", TREES_999}) {
            String[] lines = (";" + net).split(";");
            int[] row = new int[lines.length];
            int n = 0;
            int set = 0;
            TurningPosts x = Checks.on(net);
            for (int v = row.length - 1; v > 0; v = next(lines, row)) {
                if (set % 40 == 0) x = Checks.on(net);
                set++;
                for (int at = 1; at < row.length; at++) x.points(at, row[at]);
                boolean isTree = isTree(lines, row);
                Checks.due("grown of " + told(row) + " of " + net, x.grown(), isTree ? n : -2);
                if (isTree) n++;
                if (set % 3 == 0) x.plants(set % 7);
            }
        }
    }

    private static void mends() {
        Checks.of(26, "The fewest POSTS to be set anew so that they are A TREE: how many; the ROW: the least such row of POSTS (as plants()).");
        TurningPosts x = new TurningPosts();
        Checks.due("none of one", x, x.mends(), 0, "0");
        x = on(ALL_HOME, "3333333");
        Checks.due("none: they are A TREE, though not the least", x, x.mends(), 0, "3 3 3 3 3 3 3");
        x = Checks.on("20;1");
        Checks.due("one", x, x.mends(), 1, "1 0");
        x = Checks.on("20;31;42;53;64;75;6");
        Checks.due("six of seven", x, x.mends(), 6, "1 1 1 1 1 1 0");
        Checks.due("POSTS stay", Checks.posts(x), "0 0 0 0 0 0 0");
        x = Checks.on("2;3;4;5;6;7;1110");
        Checks.due("the last WAY of the last", x, x.mends(), 1, "0 0 0 0 0 0 3");
    }

    private static void mendsLeast() {
        TurningPosts x = on("02;13;20", "110");
        // 0 0 0 is the least TREE of all, by two set anew; 1 1 1 by one alone.
        Checks.due("by the fewest, not the least of all", x, x.mends(), 1, "1 1 1");
        x = Checks.on("200;1");
        Checks.due("of two that do the least one", x, x.mends(), 1, "1 0");
        x = Checks.on("20;10");
        Checks.due("the second one is set: that is less", x, x.mends(), 1, "0 1");
        x = on("00;31;2000", "110");
        Checks.due("what need not be set stays", x, x.mends(), 0, "1 1 0");
        x = on("00;13;2000", "110");
        Checks.due("back to 0 is less than on to 1", x, x.mends(), 1, "1 0 0");
    }

    private static void route() {
        Checks.of(27, "The fewest WAYS from a CROSSING to another one (like ones: 0): how many; the ROW: the CROSSINGS behind each (of as few the least row).");
        TurningPosts x = Checks.on(LINE);
        for (int v = 0; v <= 7; v++) Checks.due("to itself", x, x.route(v, v), 0, "");
        Checks.due("one", x, x.route(7, 0), 1, "0");
        Checks.due("seven", x, x.route(1, 0), 7, "2 3 4 5 6 7 0");
        Checks.due("six", x, x.route(1, 7), 6, "2 3 4 5 6 7");
        x = Checks.on("543;0;0;2;2");
        Checks.due("fewer ahead of less", x, x.route(1, 0), 2, "3 0");
        Checks.due("the least of as few", x, x.route(1, 2), 2, "4 2");
        Checks.of(27, "-2: there are none");
        for (int v = 1; v <= 3; v++) {
            int to = v;
            Checks.refused("from THE INN to " + v, Checks::busy, y -> y.route(0, to), -2);
        }
        Checks.refused("back on a line", () -> Checks.on(LINE), y -> y.route(7, 1), -2);
        Checks.refused("back by one", () -> Checks.on(LINE), y -> y.route(2, 1), -2);
        Checks.due("there are some to THE INN", Checks.on(LINE).route(2, 0), 6);
    }

    private static void routeRefused() {
        Checks.of(27, "NONE: none such.");
        for (int v : NO_CROSSING) {
            Checks.refused("route(" + v + ", 0)", Checks::busy, y -> y.route(v, 0), -1);
            Checks.refused("route(3, " + v + ")", Checks::busy, y -> y.route(3, v), -1);
            Checks.refused("route(0, " + v + ")", Checks::busy, y -> y.route(0, v), -1);
            Checks.refused("route(" + v + ", " + v + ")", Checks::busy, y -> y.route(v, v), -1);
        }
        Checks.due("the last one", Checks.busy().route(3, 3), 0);
    }

    private static void gates() {
        Checks.of(28, "CROSSINGS (not 0, not the one itself) through which each comes who goes from one to THE INN, whatever WAYS he goes: them (bits); the ROW: how many.");
        TurningPosts x = Checks.on(LINE);
        for (int v = 1; v <= 7; v++) Checks.due("from " + v, x, x.gates(v), 256 - (2 << v), "" + (7 - v));
        x = new TurningPosts();
        Checks.due("none of one", x, x.gates(1), 0, "0");
        x = Checks.on("20;1");
        Checks.due("not the one itself, though all come back there", x, x.gates(1), 0, "0");
        Checks.due("the other one", x, x.gates(2), 2, "1");
        x = Checks.on("23;4;4;5;0");
        Checks.due("two ways round, one through", x, x.gates(1), 48, "2");
        x = Checks.on("230;4;4;5;0");
        Checks.due("a WAY straight on: none", x, x.gates(1), 0, "0");
        Checks.of(28, "NONE: none such, THE INN.");
        Checks.refused("gates(0)", Checks::busy, y -> y.gates(0), -1);
        for (int v : NO_CROSSING) Checks.refused("gates(" + v + ")", Checks::busy, y -> y.gates(v), -1);
    }

    private static void parish() {
        Checks.of(29, "CROSSINGS (bits) that lie in one ring of WAYS, at least, with a CROSSING, one behind the other (to each there are WAYS, and back; itself, too): them; the ROW: how many such sets there are in all (THE INN is one).");
        TurningPosts x = Checks.on(LINE);
        for (int v = 0; v <= 7; v++) Checks.due("itself alone, " + v, x, x.parish(v), 1 << v, "8");
        x = new TurningPosts();
        Checks.due("of two", x, x.parish(1), 2, "2");
        Checks.due("THE INN", x, x.parish(0), 1, "2");
        x = Checks.on("2;3;4;5;6;7;10");
        for (int v = 1; v <= 7; v++) Checks.due("one ring of seven, " + v, x, x.parish(v), 254, "2");
        Checks.due("THE INN is in none", x, x.parish(0), 1, "2");
        x = Checks.on("23;1;14;5;40");
        Checks.due("two rings with 1 in both", x, x.parish(2), 14, "3");
        Checks.due("3, too", x, x.parish(3), 14, "3");
        Checks.due("a ring behind them", x, x.parish(5), 48, "3");
        Checks.of(29, "NONE: none such.");
        for (int v : NO_CROSSING) Checks.refused("parish(" + v + ")", Checks::busy, y -> y.parish(v), -1);
        Checks.due("THE INN is such", Checks.busy().parish(0), 1);
    }
}
