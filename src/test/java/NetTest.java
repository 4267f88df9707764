/** Promises 1 to 8: a new object, THE TEXT, the net, THE RULE, what is asked of them, sheets. */
public final class NetTest {
    private static final long THROWN = Checks.THROWN;

    public static void main(String[] args) {
        newObject();
        sign();
        end();
        nets();
        netStartsAnew();
        netThatFails();
        rulesThatFail();
        rulesByValue();
        rulesByLetters();
        ruleStays();
        post();
        way();
        sheet();
        sheetRefused();
        Checks.end("NetTest");
    }

    private static void newObject() {
        TurningPosts x = new TurningPosts();
        int[] counts = {2, 1, 0, 0, 0, 0, 0, 0, 0, 0, 0};
        for (int what = 0; what < counts.length; what++) Checks.due("new: count " + what, x.count(what), counts[what]);
        int[] post = {1, 0, 0, 0, 1, 1};
        for (int what = 0; what < post.length; what++) Checks.due("new: post(1, " + what + ")", Checks.post(x, 1, what), post[what]);
        Checks.due("new: way(1, 0)", Checks.way(x, 1, 0), 0);
        Checks.due("new: a third crossing", Checks.post(x, 2, 0), THROWN);
        Checks.due("new: again", x.again(0), false);
        Checks.due("new: undo", x.undo(), -1);
    }

    private static void sign() {
        TurningPosts x = new TurningPosts();
        Checks.due("the highest byte comes first", x.sign('0' << 24 | ';' << 16 | '1' << 8 | '0'), 4);
        Checks.due("three are left", x.end(3), true);
        Checks.due("0;1 is a net", x.net(), 3);
        Checks.due("it is 0;1", Checks.way(x, 2, 0), 1);
        Checks.due("signs above 127", x.sign(-1), 4);
        Checks.due("they are 255", x.net(), -1);
        for (int i = 1; i <= 20; i++) Checks.due("signs", x.sign(0), 4 * i);
        Checks.due("more than 80", x.sign(0), -1);
        Checks.due("80 stay", x.count(10), 80);
        x.end(77);
        Checks.due("81 are refused", x.sign(0), -1);
        Checks.due("77 stay", x.count(10), 77);
        x.end(76);
        Checks.due("80 are not", x.sign(0), 80);
    }

    private static void end() {
        TurningPosts x = new TurningPosts();
        Checks.due("none of none", x.end(0), true);
        Checks.due("one of none", x.end(1), false);
        x.sign(0);
        Checks.due("below 0", x.end(-1), false);
        Checks.due("the least", x.end(Integer.MIN_VALUE), false);
        Checks.due("too many", x.end(5), false);
        Checks.due("nothing is gone", x.count(10), 4);
        Checks.due("all", x.end(4), true);
        Checks.due("all stay", x.count(10), 4);
        Checks.due("some", x.end(1), true);
        Checks.due("one stays", x.count(10), 1);
        Checks.due("what is gone is gone", x.end(2), false);
    }

    private static void nets() {
        String[] nets = {"", "0", "x", "8", "9", "/", "1", "0000", "00000", "0;", ";", "0;;", "0;1", "0;2", "01", "0;1;3", "0;18", "0 ",
            "0;0;0;0;0;0;0", "0;0;0;0;0;0;0;", "0;0;0;0;0;0;0;0", "0;0;0;0;0;0;0;8", "0;0;0;0;0;0;00000", "0;0;0;0;0;0;7",
            "2", "02", "7", "0;7", "2;1", "02;1", "23;1", "2;3;2", "0;3;2", "2;0", "2;3;4;5;6;7;0", "0:", "0:1"};
        int[] answers = {-1, 2, -1, -1, -1, -1, -1, 2, -5, -3, -1, -3, 3, -3, -2, -5, -4, -2,
            8, -15, -15, -15, -17, -13,
            -100, -100, -100, -100, -101, 3, -100, -101, -101, 3, 8, -2, -2};
        for (int i = 0; i < nets.length; i++) {
            TurningPosts x = new TurningPosts();
            Checks.due("net " + nets[i], Checks.net(x, nets[i]), answers[i]);
            Checks.due("net " + nets[i] + ": THE TEXT is empty", x.count(10), 0);
            if (answers[i] > 0) Checks.due("net " + nets[i] + ": crossings", x.count(0), answers[i]);
        }
    }

    private static void netStartsAnew() {
        TurningPosts x = busy();
        Checks.due("a net of three", Checks.net(x, "02;13;20"), 4);
        int[] counts = {4, 6, 0, 0, 0, 0, 0, 0, 0, 1, 0};
        for (int what = 0; what < counts.length; what++) Checks.due("anew: count " + what, x.count(what), counts[what]);
        Checks.due("the ROW stays", x.row(0), 2);
        Checks.due("THE RULE stays", Checks.post(x, 1, 4), 3);
        Checks.due("POSTS are 0", Checks.posts(x), "0 0 0");
        Checks.due("nothing is kept", x.again(0), false);
        Checks.due("nothing is kept to join", x.joins(0), -2);
        Checks.due("nothing can be undone", x.undo(), -1);
    }

    private static void netThatFails() {
        for (String net : new String[] {"x", "2", "2;1", ""}) {
            TurningPosts x = busy();
            Checks.net(x, net);
            int[] counts = {3, 4, 1, 1, 4, 4, 1, 1, 4, 1, 0};
            for (int what = 0; what < counts.length; what++) Checks.due("net " + net + " fails: count " + what, x.count(what), counts[what]);
            Checks.due("net " + net + " fails: POSTS", Checks.posts(x), "1 1");
            Checks.due("net " + net + " fails: a way", Checks.way(x, 2, 0), 1);
            Checks.due("net " + net + " fails: kept", x.again(0), true);
        }
    }

    /** Something of all that a net begins anew. */
    private static TurningPosts busy() {
        TurningPosts x = Checks.on("02;10");
        Checks.rule(x, "3");
        x.comes(2, 4);
        x.comes(1, 1);
        x.points(2, 1);
        x.goes(1);
        x.keep(0);
        x.seen(1, 1, 1);
        x.heard(0, 2);
        x.fits();
        return x;
    }

    private static void rulesThatFail() {
        String[] rules = {"", "1", "123", "1234", "+", "d+", "d-", "dd", "d1", "1d", "x", "()", "(", "(d", "(d)", "d)", "(d))", "((((d))))", "(((((d", "((((d)))",
            "1<2", "1<2<3", "1<2=3", "(1<2)<3", "1<(2<3)", "(1<2<3)", "1<2+(3<4)", "1<(2)>3", "<1", "1<", "1<=2", "*1", "1*", "1**2", "1*-2", "1--2", "-", "--", "--1",
            "(1)2", "2(1)", "(1)(2)", "(1)d", "d(", "1 ", " 1", "D", "1.2", "-(1", "1+)", "(+1)", "d*k/w+c-i<h=n"};
        int[] answers = {0, 0, 0, -4, -1, -3, -3, -2, -2, -2, -1, -2, -2, -3, 0, -2, -4, 0, -5, -9,
            0, -4, -4, 0, 0, -5, 0, -6, -1, -3, -3, -1, -3, -3, 0, 0, -2, -3, 0,
            -4, -2, -4, -4, -2, -2, -1, -1, -2, -4, -3, -2, -12};
        for (int i = 0; i < rules.length; i++) {
            TurningPosts x = new TurningPosts();
            Checks.due("rule " + rules[i], Checks.rule(x, rules[i]), answers[i]);
            Checks.due("rule " + rules[i] + ": THE TEXT is empty", x.count(10), 0);
        }
        TurningPosts x = new TurningPosts();
        String ones = "1+1+1+1+1+1+1+1+1+1+1+1+1+1+1+1+1+1+1+1+1+1+1+1+1";
        Checks.due("39 signs", Checks.rule(x, ones.substring(0, 39)), 0);
        Checks.due("40 that end too early", Checks.rule(x, ones.substring(0, 40)), -41);
        Checks.due("41 signs", Checks.rule(x, ones.substring(0, 41)), -41);
        Checks.due("40 signs", Checks.rule(x, "-" + ones.substring(0, 39)), 0);
        Checks.due("41 of which 40 could end", Checks.rule(x, "-" + ones.substring(0, 40)), -41);
        Checks.due("41 of which the last can't stand", Checks.rule(x, "-" + ones.substring(0, 39) + "x"), -41);
        Checks.due("41 of which the 40th can't stand", Checks.rule(x, ones.substring(0, 39) + "x1"), -40);
        Checks.due("80 minus", Checks.rule(x, "-".repeat(80)), -41);
        Checks.due("40 minus", Checks.rule(x, "-".repeat(40)), -41);
        Checks.due("39 minus and a letter", Checks.rule(x, "-".repeat(39) + "d"), 0);
    }

    private static int turn(TurningPosts x, String rule, int crossing) {
        Checks.due("rule " + rule, Checks.rule(x, rule), 0);
        return x.post(crossing, 4);
    }

    private static void rulesByValue() {
        TurningPosts x = new TurningPosts();
        String[] rules = {"0", "9", "10", "999", "-1", "007", "2+3*2", "9-3-2", "8/3", "-7/2+9", "7/-2+9", "7/0", "7/0+5", "8/2/2", "8/2*3", "2*8/3", "1<2", "2<1", "2<2", "2>1", "2>2",
            "2=2", "2=1", "1+1<3", "3<1+1", "5-(3-1)", "--3", "---3+8", "3--2", "2*-1+9", "-2*-3", "(1<2)+(3>2)", "((((3))))", "-(2)+5", "1<2*0", "(2>1)*7", "4-2<3", "1=1+1", "100/7/2",
            "9-2*3+1", "-3<-2", "-(1=1)+2"};
        int[] values = {0, 9, 9, 9, 0, 7, 8, 4, 2, 6, 6, 0, 5, 2, 9, 5, 1, 0, 0, 1, 0,
            1, 0, 1, 0, 3, 3, 5, 5, 7, 6, 2, 3, 3, 0, 7, 1, 0, 7,
            4, 1, 1};
        for (int i = 0; i < rules.length; i++) Checks.due("value of " + rules[i], turn(x, rules[i], 1), values[i]);
        int wrapped = 999 * 999 * 999 * 4;
        Checks.due("ints wrap", turn(x, "999*999*999*4/999/999/9", 1), Math.max(0, Math.min(9, wrapped / 999 / 999 / 9)));
        int most = 512 * 512 * 512 * 8 * 2;
        Checks.due("the least int by -1", turn(x, "512*512*512*8*2/-1<0", 1), most / -1 < 0 ? 1 : 0);
    }

    private static void rulesByLetters() {
        TurningPosts x = Checks.on("02;130;20");
        x.comes(2, 5);
        x.points(2, 1);
        String[] letters = {"d", "k", "w", "c", "i", "h", "n"};
        int[] first = {2, 0, 0, 0, 1, 0, 0};
        int[] second = {3, 1, 3, 5, 2, 0, 0};
        for (int i = 0; i < letters.length; i++) {
            Checks.due(letters[i] + " of 1", turn(x, letters[i], 1), first[i]);
            Checks.due(letters[i] + " of 2", turn(x, letters[i], 2), second[i]);
        }
        Checks.due("no rule", turn(x, "", 2), 1);
        x.comes(1, 9);
        x.points(1, 1);
        x.points(1, 0);
        Checks.rule(x, "0");
        for (int i = 1; i <= 8; i++) {
            x.goes(1);
            Checks.due("h behind " + i, turn(x, "h", 1), i % 7);
            Checks.due("n behind " + i, turn(x, "n", 1), i % 7);
            Checks.rule(x, "0");
        }
        x.bursts(2);
        Checks.due("h behind a BURST", turn(x, "h", 1), 2);
        Checks.due("n behind a BURST", turn(x, "n", 1), 1);
    }

    private static void ruleStays() {
        TurningPosts x = new TurningPosts();
        Checks.rule(x, "5");
        x.ready();
        x.comes(1, 1);
        Checks.due("one that fails", Checks.rule(x, "5+"), -3);
        Checks.due("the old one stays", x.post(1, 4), 5);
        Checks.due("the ROW stays", Checks.row(x), "0 0");
        Checks.due("rule undoes nothing", x.count(8), 1);
        Checks.due("none again", Checks.rule(x, ""), 0);
        Checks.due("it is 1", x.post(1, 4), 1);
    }

    private static void post() {
        TurningPosts x = Checks.on("2;310;210");
        x.comes(2, 7);
        x.points(2, 1);
        x.comes(1, 2);
        int[][] due = {{0, 0, 0, 0, 0, 0}, {1, 0, 2, 2, 1, 2}, {3, 1, 1, 7, 1, 1}, {3, 0, 2, 0, 1, 1}};
        for (int v = 0; v < due.length; v++) {
            for (int what = 0; what < 6; what++) Checks.due("post(" + v + ", " + what + ")", Checks.post(x, v, what), due[v][what]);
        }
        x.bursts(2);
        Checks.due("HOUSED", Checks.post(x, 0, 3), 1);
        int[][] wrong = {{-1, 0}, {4, 0}, {0, -1}, {0, 6}, {1, -1}, {1, 6}, {Integer.MIN_VALUE, 0}, {Integer.MAX_VALUE, 0}, {1, Integer.MAX_VALUE}, {8, 3}};
        for (int[] call : wrong) Checks.due("post(" + call[0] + ", " + call[1] + ")", Checks.post(x, call[0], call[1]), THROWN);
        x = Checks.on("2;3;4;5;6;7;0");
        for (int v = 1; v < 8; v++) Checks.due("far of " + v, Checks.post(x, v, 5), 8 - v);
    }

    private static void way() {
        TurningPosts x = Checks.on("2203;1;0");
        int[] ways = {2, 2, 0, 3};
        for (int k = 0; k < 4; k++) Checks.due("way(1, " + k + ")", Checks.way(x, 1, k), ways[k]);
        Checks.due("way(2, 0)", Checks.way(x, 2, 0), 1);
        int[][] wrong = {{1, 4}, {1, -1}, {2, 1}, {0, 0}, {4, 0}, {-1, 0}, {Integer.MAX_VALUE, 0}, {1, Integer.MIN_VALUE}};
        for (int[] call : wrong) Checks.due("way(" + call[0] + ", " + call[1] + ")", Checks.way(x, call[0], call[1]), THROWN);
    }

    private static void sheet() {
        TurningPosts x = Checks.on("0;0;0;0;0;0;0");
        Checks.due("ints", x.sheet(2, 7, 0, 2), 0 + 2 + 4 + 6 + 8 + 9 + 9);
        Checks.due("put to 9", Checks.crowds(x), "0 2 4 6 8 9 9");
        Checks.due("below 0", x.sheet(2, 5, -2, 1), 3);
        Checks.due("put to 0, and 0 behind them", Checks.crowds(x), "0 0 0 1 2 0 0");
        Checks.due("bytes", x.sheet(0, 4, 127, 1), 9);
        Checks.due("bytes have their sign", Checks.crowds(x), "9 0 0 0 0 0 0");
        Checks.due("the lowest bits of bytes", x.sheet(0, 3, 259, 256), 9);
        Checks.due("they are 3", Checks.crowds(x), "3 3 3 0 0 0 0");
        Checks.due("shorts", x.sheet(1, 4, 32767, 1), 9);
        Checks.due("shorts have their sign", Checks.crowds(x), "9 0 0 0 0 0 0");
        Checks.due("the lowest bits of shorts", x.sheet(1, 2, 65536 + 4, 65536 * 3 - 1), 7);
        Checks.due("they are 4, 3", Checks.crowds(x), "4 3 0 0 0 0 0");
        Checks.due("shorts of 259", x.sheet(1, 1, 259, 0), 9);
        Checks.due("ints of 65540", x.sheet(2, 1, 65540, 0), 9);
        Checks.due("ints wrap", x.sheet(2, 3, Integer.MAX_VALUE, 1), 9);
        Checks.due("they wrap below 0", Checks.crowds(x), "9 0 0 0 0 0 0");
        Checks.due("no entries", x.sheet(2, 0, 5, 5), 0);
        Checks.due("all 0", Checks.crowds(x), "0 0 0 0 0 0 0");
        TurningPosts y = Checks.on("0;0");
        Checks.due("entries of no crossing", y.sheet(2, 7, 4, 0), 8);
        Checks.due("walkers of two", y.count(4), 8);
    }

    private static void sheetRefused() {
        TurningPosts x = Checks.on("0;0");
        x.comes(1, 3);
        x.ready();
        int[][] calls = {{4, 0}, {-1, 0}, {0, 8}, {3, 8}, {4, -1}, {-1, -1}, {Integer.MAX_VALUE, 8}, {2, Integer.MAX_VALUE}, {0, -1}, {1, -1}, {2, -1}, {2, Integer.MIN_VALUE}};
        int[] answers = {-1, -1, -1, -1, -1, -1, -1, -1, -2, -2, -2, -2};
        for (int i = 0; i < calls.length; i++) {
            Checks.due("sheet(" + calls[i][0] + ", " + calls[i][1] + ")", x.sheet(calls[i][0], calls[i][1], 1, 1), answers[i]);
            Checks.due("nothing changes", Checks.crowds(x), "3 0");
        }
        Checks.due("sheets aren't undone", x.count(8), 1);
        Checks.due("a missing one", x.sheet(3, 0, 5, 5), -3);
        Checks.due("all 0", Checks.crowds(x), "0 0");
        Checks.due("the ROW stays", Checks.row(x), "1 3");
        Checks.due("a missing one of -1", x.sheet(3, -1, 5, 5), -3);
        Checks.due("sheets aren't kept", x.count(8), 1);
        x.sheet(2, 2, 5, 0);
        Checks.due("what was ahead of the sheet is undone", x.undo(), 0);
        Checks.due("as ahead of it", Checks.crowds(x), "0 0");
    }
}
