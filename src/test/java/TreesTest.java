/** Promises 22 to 29: POSTS that make A TREE, how many, which one, how they are mended; ways by fewest WAYS. */
public final class TreesTest {
    private static final int[] NO_CROSSINGS = {-1, 4, 8, Integer.MAX_VALUE, Integer.MIN_VALUE};

    public static void main(String[] args) {
        tree();
        trees();
        plants();
        grown();
        mends();
        route();
        gates();
        parish();
        Checks.end("TreesTest");
    }

    private static TurningPosts three(String posts) {
        TurningPosts x = Checks.on("02;13;20");
        for (int v = 1; v <= 3; v++) x.points(v, posts.charAt(v - 1) - '0');
        return x;
    }

    private static void tree() {
        TurningPosts x = Checks.on("20;10;40;30");
        Checks.due("two rings", x, x.tree(), 0, "0 2");
        x.points(1, 1);
        Checks.due("one ring", x, x.tree(), 2, "0 1");
        x.points(4, 1);
        Checks.due("A TREE", x, x.tree(), 4, "1 0");
        x = Checks.on("2;1340;2;3;60;5;6");
        Checks.due("rings and those who lead there", x, x.tree(), 0, "0 2");
        x = Checks.on("2;3;4;5;6;7;10");
        Checks.due("one ring of all", x, x.tree(), 0, "0 1");
        x = new TurningPosts();
        Checks.due("one WAY", x, x.tree(), 1, "1 0");
        x = three("110");
        Checks.due("from none", x, x.tree(), 0, "0 1");
        x = three("010");
        Checks.due("from 1 alone", x, x.tree(), 1, "0 1");
    }

    private static void trees() {
        TurningPosts x = three("110");
        Checks.due("four of eight", x, x.trees(), 4, "8");
        x = Checks.on("0000;0000;0000;0000;0000;0000;0000");
        Checks.due("all of 16384", x, x.trees(), 16384, "16384");
        x = Checks.on("00;11");
        Checks.due("like WAYS count each", x, x.trees(), 4, "4");
        x = Checks.on("2;0");
        Checks.due("one of one", x, x.trees(), 1, "1");
        x = Checks.on("20;3;1");
        Checks.due("a ring less", x, x.trees(), 1, "2");
    }

    private static void plants() {
        TurningPosts x = three("110");
        String[] rows = {"0 0 0", "0 0 1", "0 1 1", "1 1 1"};
        for (int n = 0; n < 4; n++) Checks.due("TREE " + n, x, x.plants(n), 0, rows[n]);
        Checks.due("no fifth one", x.plants(4), -2);
        Checks.due("nor the last that can be asked", x.plants(999), -2);
        for (int n : new int[] {-1, 1000, Integer.MAX_VALUE, Integer.MIN_VALUE}) Checks.due("plants(" + n + ")", x.plants(n), -1);
        Checks.due("the ROW stays", Checks.row(x), "1 1 1");
        Checks.due("POSTS stay", Checks.posts(x), "1 1 0");
        x = Checks.on("0000;0000;0000;0000;0000;0000;0000");
        Checks.due("TREE 999", x, x.plants(999), 0, "0 0 3 3 2 1 3");
        Checks.due("TREE 1000", x.plants(1000), -1);
        x = Checks.on("20;3;1");
        Checks.due("the only one", x, x.plants(0), 0, "1 0 0");
        Checks.due("no other", x.plants(1), -2);
    }

    private static void grown() {
        String[] posts = {"000", "001", "011", "111", "010", "100", "101", "110"};
        for (int i = 0; i < posts.length; i++) Checks.due("grown " + posts[i], three(posts[i]).grown(), i < 4 ? i : -2);
        TurningPosts x = Checks.on("0000;0000;0000;0000;0000;0000;0000");
        for (int v = 1; v <= 7; v++) x.points(v, 3);
        Checks.due("the last one", x.grown(), 16383);
        x.ready();
        x.grown();
        Checks.due("no ROW is told", Checks.row(x), "0 0");
    }

    private static void mends() {
        String[] posts = {"000", "001", "011", "111", "010", "100", "101", "110"};
        int[] answers = {0, 0, 0, 0, 1, 1, 1, 1};
        String[] rows = {"0 0 0", "0 0 1", "0 1 1", "1 1 1", "0 0 0", "0 0 0", "0 0 1", "1 1 1"};
        for (int i = 0; i < posts.length; i++) {
            TurningPosts x = three(posts[i]);
            Checks.due("mends " + posts[i], x, x.mends(), answers[i], rows[i]);
            Checks.due("POSTS stay", Checks.posts(x).replace(" ", ""), posts[i]);
        }
        TurningPosts x = Checks.on("20;31;2");
        Checks.due("more than there are rings", x, x.mends(), 2, "1 1 0");
        x = Checks.on("20;31;42;53;64;75;6");
        Checks.due("all but the last", x, x.mends(), 6, "1 1 1 1 1 1 0");
        x = Checks.on("20;10;40;30");
        Checks.due("two rings", x, x.mends(), 2, "0 1 0 1");
    }

    private static void route() {
        TurningPosts x = Checks.on("32;4;4;0");
        Checks.due("the least of two", x, x.route(1, 0), 3, "2 4 0");
        Checks.due("to 4", x, x.route(1, 4), 2, "2 4");
        Checks.due("the same", x, x.route(3, 3), 0, "");
        Checks.due("THE INN's own", x, x.route(0, 0), 0, "");
        x.route(3, 0);
        Checks.due("none from THE INN", x.route(0, 1), -2);
        Checks.due("none to 1", x.route(2, 1), -2);
        Checks.due("the ROW stays", Checks.row(x), "4 0");
        for (int v : new int[] {-1, 5, 8, Integer.MAX_VALUE, Integer.MIN_VALUE}) {
            Checks.due("route(" + v + ", 0)", x.route(v, 0), -1);
            Checks.due("route(1, " + v + ")", x.route(1, v), -1);
            Checks.due("route(0, " + v + ")", x.route(0, v), -1);
        }
        x = Checks.on("23;1;0");
        Checks.due("a less one that is longer", x, x.route(1, 0), 2, "3 0");
        x = Checks.on("2;3;4;5;6;7;0");
        Checks.due("seven", x, x.route(1, 0), 7, "2 3 4 5 6 7 0");
        x = three("110");
        Checks.due("POSTS are all one", x, x.route(3, 1), 2, "2 1");
    }

    private static void gates() {
        TurningPosts x = Checks.on("0;1;2");
        Checks.due("two ahead", x, x.gates(3), 6, "2");
        Checks.due("one ahead", x, x.gates(2), 2, "1");
        Checks.due("none", x, x.gates(1), 0, "0");
        for (int v : NO_CROSSINGS) Checks.due("gates(" + v + ")", x.gates(v), -1);
        Checks.due("gates(0)", x.gates(0), -1);
        Checks.due("the ROW stays", Checks.row(x), "0");
        x = Checks.on("23;4;4;0");
        Checks.due("where both come together", x, x.gates(1), 16, "1");
        x = Checks.on("20;1");
        Checks.due("back through itself", x, x.gates(1), 0, "0");
        Checks.due("through 1", x, x.gates(2), 2, "1");
        x = Checks.on("2;3;4;5;6;7;0");
        Checks.due("six", x, x.gates(1), 252, "6");
    }

    private static void parish() {
        TurningPosts x = Checks.on("02;1;2");
        Checks.due("1 and 2", x, x.parish(1), 6, "3");
        Checks.due("2 and 1", x, x.parish(2), 6, "3");
        Checks.due("3 alone", x, x.parish(3), 8, "3");
        Checks.due("THE INN", x, x.parish(0), 1, "3");
        for (int v : NO_CROSSINGS) Checks.due("parish(" + v + ")", x.parish(v), -1);
        Checks.due("the ROW stays", Checks.row(x), "3");
        x = Checks.on("0;1;2;3;4;5;6");
        Checks.due("each alone", x, x.parish(7), 128, "8");
        x = Checks.on("2;3;4;5;6;7;10");
        Checks.due("one ring of all", x, x.parish(3), 254, "2");
    }
}
