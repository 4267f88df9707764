/** Edges that promises 1 to 8 name: a new object, THE TEXT, the net, THE RULE, what is asked of them, sheets. */
public final class NetEdgesTest {
    private static final long THROWN = Checks.THROWN;
    private static final int LEAST = Integer.MIN_VALUE;
    private static final int MOST = Integer.MAX_VALUE;

    public static void main(String[] args) {
        newObject();
        sign();
        signRefused();
        end();
        endRefused();
        netAnew();
        netSigns();
        netLines();
        netChecks();
        netBehindOther();
        rule();
        ruleSigns();
        ruleBehindOther();
        ruleOf40();
        post();
        postThrows();
        way();
        sheet();
        sheetOfBytes();
        sheetMissing();
        sheetRefused();
        Checks.end("NetEdgesTest");
    }

    private static void newObject() {
        Checks.of(1, "CROSSINGS 0 and 1, one WAY between.");
        TurningPosts x = new TurningPosts();
        int[] counts = {2, 1, 0, 0, 0, 0, 0, 0, 0, 0, 0};
        for (int what = 0; what < counts.length; what++) Checks.due("count " + what, x.count(what), counts[what]);
        int[] post = {1, 0, 0, 0, 1, 1};
        for (int what = 0; what < post.length; what++) Checks.due("post(1, " + what + ")", Checks.post(x, 1, what), post[what]);
        Checks.due("way(1, 0)", Checks.way(x, 1, 0), 0);
        Checks.due("no ROW", Checks.rowAt(x, 0), THROWN);
        for (int i = 0; i <= 2; i++) Checks.due("nothing kept", x.again(i), false);
        Checks.due("nothing to undo", x.undo(), -1);
        TurningPosts other = Checks.busy();
        Checks.due("each object for itself", Whole.of(new TurningPosts()), Whole.of(x));
        Checks.due("and the other one", other.count(0), 4);
    }

    private static void sign() {
        Checks.of(2, "Four signs come behind THE TEXT, of v the highest byte first: how many it has.");
        TurningPosts x = new TurningPosts();
        Checks.due("four", x.sign('0' << 24 | '2' << 16 | ';' << 8 | '1'), 4);
        Checks.due("behind them", x.sign('3' << 24 | ';' << 16 | '2' << 8 | '0'), 8);
        Checks.due("in this order", x.net(), 4);
        Checks.due("2 goes to 1", x.way(2, 0), 1);
        Checks.due("and to 3", x.way(2, 1), 3);
        // With any bit turned, a 0 in LINE 1 is no more a sign that can stand, but for 2 and 4.
        for (int place = 0; place < 4; place++) {
            for (int bit : new int[] {0x80, 0x40, 0x20, 0x10, 0x08, 0x01}) {
                x.sign(0x30303030 ^ bit << 24 - 8 * place);
                Checks.due("bit " + bit + " of sign " + place, x.net(), -1 - place);
            }
        }
        Checks.due("all bits", x.sign(-1), 4);
        Checks.due("signs of 0", x.sign(0), 8);
    }

    private static TurningPosts filled(int signs) {
        TurningPosts x = new TurningPosts();
        for (int i = 0; i < 20; i++) x.sign('0' << 24 | ';' << 16 | '0' << 8 | ';');
        x.end(signs);
        return x;
    }

    private static void signRefused() {
        Checks.of(2, "Refused: there would be more than 80.");
        TurningPosts x = new TurningPosts();
        for (int i = 1; i <= 20; i++) Checks.due("four more", x.sign(i), 4 * i);
        Checks.due("84", x.sign(1), -1);
        for (int signs = 73; signs <= 80; signs++) {
            TurningPosts y = filled(signs);
            Checks.due("on " + signs, y.sign('x' << 24), signs <= 76 ? signs + 4 : -1);
            Checks.due("THE TEXT has", y.count(10), signs <= 76 ? signs + 4 : signs);
            Checks.due("the first 14 are as they were", y.end(14) ? y.net() : 0, -15);
        }
        Checks.refused("on 80", () -> filled(80), z -> z.sign(1), -1);
        Checks.refused("on 77", () -> filled(77), z -> z.sign(-1), -1);
        TurningPosts full = filled(80);
        full.sign('0' << 24);
        Checks.due("no sign came", full.end(81), false);
    }

    private static void end() {
        Checks.of(3, "THE TEXT has its first n signs alone: true");
        TurningPosts x = new TurningPosts();
        Checks.due("none of none", x.end(0), true);
        x.sign('0' << 24 | ';' << 16 | '1' << 8 | 'x');
        Checks.due("all", x.end(4), true);
        Checks.due("all stay", x.count(10), 4);
        Checks.due("three", x.end(3), true);
        Checks.due("three stay", x.count(10), 3);
        x.sign('0' << 24 | 'x' << 16);
        Checks.due("what comes now comes behind them", x.count(10), 7);
        Checks.due("four", x.end(4), true);
        Checks.due("0;10", x.net(), 3);
        Checks.due("2 goes to 1", x.way(2, 0), 1);
        Checks.due("and to 0", x.way(2, 1), 0);
        x.sign('0' << 24);
        Checks.due("none", x.end(0), true);
        Checks.due("THE TEXT is empty", x.count(10), 0);
        Checks.due("as a net", x.net(), -1);
    }

    private static void endRefused() {
        Checks.of(3, "false if it has not so many, or n is below 0.");
        TurningPosts x = new TurningPosts();
        Checks.due("one of none", x.end(1), false);
        for (int n : new int[] {4, 5, 80, MOST, -1, LEAST}) Checks.refused("end(" + n + ") of three", Checks::busy, y -> y.end(n) ? 1 : 0, 0);
        Checks.due("80 of 80", filled(80).end(80), true);
        Checks.due("81 of 80", filled(80).end(81), false);
        x = filled(80);
        x.end(20);
        Checks.due("what is gone is gone", x.end(21), false);
    }

    private static void netAnew() {
        Checks.of(4, "THE TEXT is the net anew: how many CROSSINGS");
        TurningPosts x = Checks.busy();
        Checks.due("two LINES", Checks.net(x, "0;1"), 3);
        Checks.due("three CROSSINGS", x.count(0), 3);
        Checks.due("two WAYS", x.count(1), 2);
        Checks.due("WAY", x.way(2, 0), 1);
        Checks.due("THE TEXT is empty", x.count(10), 0);
        Checks.of(4, "all else is as at first (but THE RULE and the ROW; nothing can be undone, nothing is kept, nothing was seen or heard)");
        for (String net : new String[] {"02;13;20", "0", "0;1;2;3;4;5;6"}) {
            x = Checks.busy();
            TurningPosts y = new TurningPosts();
            Checks.due("net " + net, Checks.net(x, net) + Checks.net(y, net), 2 * x.count(0));
            Checks.due("the ROW stays", Checks.row(x), "0 1 1");
            Checks.rule(y, "c+n+h*2+k");
            x.fits();
            y.fits();
            Checks.due("as one that is new", Whole.of(x), Whole.of(y));
        }
        x = Checks.busyOfSeven();
        String seven = "0;0134;0;0;0;0;0012";
        TurningPosts y = new TurningPosts();
        Checks.due("net " + seven, Checks.net(x, seven) + Checks.net(y, seven), 16);
        Checks.rule(y, "k+c");
        x.fits();
        y.fits();
        Checks.due("as one that is new, all seven", Whole.of(x), Whole.of(y));
        x = Checks.busy();
        Checks.net(x, "02;13;20");
        Checks.due("nothing to undo, kept, seen, heard", x.undo() + " " + x.again(0) + " " + x.again(2) + " " + x.forget() + " " + x.denies(), "-1 false false 0 0");
        x.comes(1, 4);
        Checks.due("THE RULE stays", x.post(1, 4), 4);
    }

    private static void net(String net, int want) {
        Checks.due("net " + net, Checks.net(new TurningPosts(), net), want);
        if (want < 0) Checks.refused("net " + net + " on others", Checks::busy, net, TurningPosts::net, want);
    }

    private static void netSigns() {
        Checks.of(4, "-1 - p: the sign at p can't stand there");
        for (String sign : new String[] {" ", "a", ":", "/", ",", "-", "(", "\u00ff", "\u0000", "\u00b0"}) {
            net(sign, -1);
            net("0" + sign, -2);
            net("0;" + sign + "1", -3);
            net("02;13;2" + sign + ";", -8);
        }
        net(";", -1);
        net(";0", -1);
        net("0;;0", -3);
        Checks.of(4, "its end, if it ends too early");
        net("", -1);
        net("0;", -3);
        net("02;13;", -7);
        net("02;13;2", 4);
        Checks.of(4, "a digit above 7");
        net("8", -1);
        net("9", -1);
        net("7", -100);
        net("0;0;0;0;0;0;8", -13);
        net("0;0;0;0;0;70;0", 8);
        net("0;0;0;0;0;80;0", -11);
    }

    private static void netLines() {
        Checks.of(4, "a fifth digit of a LINE");
        net("0000", 2);
        net("00000", -5);
        net("00008", -5);
        net("0;0000;0", 4);
        net("0;00000;0", -7);
        net("0;0;0;0;0;0;0000", 8);
        net("0;0;0;0;0;0;00000", -17);
        Checks.of(4, "the first sign of an eighth LINE, its end, too");
        net("0;0;0;0;0;0;0", 8);
        net("0;0;0;0;0;0;0;", -15);
        net("0;0;0;0;0;0;0;0", -15);
        net("0;0;0;0;0;0;0;;", -15);
        net("0;0;0;0;0;0;0;x", -15);
        net("0;0;0;0;0;0;0000;0", -18);
        net("0;0;0;0;0;0;", -13);
        Checks.of(4, "a digit that is the LINE's own CROSSING");
        String[] lines = {"0", "0", "0", "0", "0", "0", "0"};
        for (int v = 1; v <= 7; v++) {
            lines[v - 1] = "0" + v;
            net(String.join(";", lines), -1 - (2 * v - 1));
            lines[v - 1] = "" + v;
            net(String.join(";", lines), -1 - (2 * v - 2));
            lines[v - 1] = "0" + (v == 7 ? 6 : v + 1);
            net(String.join(";", lines), 8);
            lines[v - 1] = "0";
        }
    }

    private static void netChecks() {
        Checks.of(4, "-100: some WAY goes to a CROSSING that is not there");
        net("2", -100);
        net("02", -100);
        net("02;0", 3);
        net("0;03", -100);
        net("0;03;0", 4);
        net("0;0;0;0;0;7", -100);
        net("0;0;0;0;0;0007", -100);
        net("0;0;0;0;0;7;0", 8);
        Checks.of(4, "-101: from some CROSSING none comes to THE INN");
        net("2;1", -101);
        net("2;10", 3);
        net("0;3;2", -101);
        net("0;3;20", 4);
        net("0;0;0;0;0;7;6", -101);
        net("2;3;4;5;6;7;1", -101);
        Checks.of(4, "(asked in this order, behind all signs; nothing changes)");
        net("23;1", -100);
        net("2;13;1", -101);
        net("2;14;1", -100);
        net("7;x", -3);
        net("2;1;", -5);
        net("2;1x", -4);
        net("7;0;00000", -9);
    }

    private static void netBehindOther() {
        Checks.of(4, "THE TEXT is the net anew: how many CROSSINGS; all else is as at first");
        String[] failing = {"0000;0000;0000;0000;0000;0000;0000;", "0000;0000;0000;0000;0000;0000;00000", "7777;7777", "2222;1111", "2345;x", ""};
        for (String net : failing) {
            TurningPosts x = new TurningPosts();
            Checks.due("net " + net, Checks.net(x, net) < 0, true);
            Checks.due("net 02;13;20 behind " + net, Checks.net(x, "02;13;20"), 4);
            Checks.due("WAYS of all", x.count(1), 6);
            Checks.due("mean", x, x.mean(2), 4, "4 1");
            Checks.due("parish", x, x.parish(2), 14, "2");
            Checks.due("net 0 behind both", Checks.net(x, "0"), 2);
            Checks.due("one WAY", x.count(1) + " " + x.post(1, 0) + " " + x.way(1, 0) + " " + x.post(1, 5), "1 1 0 1");
            Checks.due("a CROSSING that was", Checks.post(x, 2, 0), THROWN);
        }
    }

    private static void rule(String rule, int want) {
        Checks.due("rule " + rule, Checks.rule(new TurningPosts(), rule), want);
        if (want < 0) Checks.refused("rule " + rule + " ahead of another one", Checks::busy, rule, TurningPosts::rule, want);
    }

    private static void rule() {
        Checks.of(5, "THE TEXT is THE RULE (an empty one: none): 0.");
        TurningPosts x = Checks.busy();
        Checks.due("7", Checks.rule(x, "7"), 0);
        Checks.due("it is", x.post(1, 4), 7);
        Checks.due("THE TEXT is empty", x.count(10), 0);
        Checks.due("the ROW stays", Checks.row(x), "0 1 1");
        Checks.due("none", Checks.rule(x, ""), 0);
        Checks.due("then 1", x.post(1, 4), 1);
        TurningPosts y = Checks.busy();
        y.end(0);
        Checks.rule(x, "c+n+h*2+k");
        Checks.due("all else stays", Whole.of(x), Whole.of(y));
    }

    private static void ruleSigns() {
        Checks.of(5, "-1 - p: the sign at p can't stand there");
        String[] rules = {"x", "C", " ", "a", "b", "e", "j", "l", "m", "o", "v", "g", "p", "<", "=", ">", "+", "*", "/", ")", ",", ";", ":", "!", "\u00e7", "\u0000"};
        for (String rule : rules) {
            rule(rule, -1);
            rule("(" + rule, -2);
            rule("1+" + rule, -3);
            rule("1<" + rule + "2", -3);
        }
        String[] behind = {"d", "(", "x", " ", "k", ";", "."};
        for (String sign : behind) {
            rule("1" + sign, -2);
            rule("(d)" + sign, -4);
        }
        rule("d1", -2);
        for (String sign : new String[] {":", ";", ".", "\u00b9", "x"}) {
            rule("1" + sign, -2);
            rule("12" + sign, -3);
            rule("123" + sign, -4);
            rule("k+12" + sign, -5);
        }
        rule("(1)2", -4);
        rule("1)", -2);
        Checks.of(5, "its end, if it ends too early");
        String[] early = {"-", "(", "1+", "1-", "1*", "1/", "1<", "(1", "((1)", "-(", "1<(2", "d*-", "((((1)))"};
        for (String rule : early) rule(rule, -1 - rule.length());
    }

    /** What a text that fails has left open must not be found by the next one. */
    private static void ruleBehindOther() {
        Checks.of(5, "THE TEXT is THE RULE (an empty one: none): 0. -1 - p: the sign at p can't stand there");
        String[] failing = {"-", "--", "(", "((((", "1<", "1<2<", "1<2+", "(1<2<", "((1<2", "1+", "1*-", "12)", "1234", "(1)(", "-(", "1=2=3", "((((1=2=", "99x"};
        String[] good = {"5", "1<2", "3+4", "(1<2)", "((((1<2))))", "-1+9", "((((7))))", "d", "123", ""};
        int[] values = {5, 1, 7, 1, 1, 8, 7, 1, 9, 1};
        for (String rule : failing) {
            for (int i = 0; i < good.length; i++) {
                TurningPosts x = new TurningPosts();
                Checks.due("rule " + rule, Checks.rule(x, rule) < 0, true);
                Checks.due("rule " + good[i] + " behind " + rule, Checks.rule(x, good[i]), 0);
                Checks.due("its value", x.post(1, 4), values[i]);
                Checks.due("law " + rule, Checks.law(x, rule) <= -10000, true);
                Checks.due("law " + good[i] + " behind " + rule, Checks.law(x, good[i]), 0);
                Checks.due("THE RULE stays", x.post(1, 4), values[i]);
            }
        }
    }

    private static void ruleOf40() {
        Checks.of(5, "40, if it has more and the first 40 could go on or end");
        String ones = "1+".repeat(40);
        rule(ones.substring(0, 39), 0);
        rule(ones.substring(0, 40), -41);
        rule(ones.substring(0, 41), -41);
        rule("-" + ones.substring(0, 37) + "11", 0);
        rule("-" + ones.substring(0, 37) + "111", -41);
        rule("-" + ones.substring(0, 37) + "11x", -41);
        rule("-" + ones.substring(0, 37) + "11)", -41);
        rule(ones.substring(0, 38) + "((1", -41);
        rule(ones.substring(0, 38) + "((", -41);
        rule(ones.substring(0, 39) + "x", -40);
        rule(ones.substring(0, 39) + "xx", -40);
        rule(ones.substring(0, 38) + "xxxx", -39);
        rule(ones.substring(0, 41) + "xx", -41);
        rule(ones.substring(0, 42) + "++", -41);
        rule(ones.substring(0, 60) + "x", -41);
        rule(ones.substring(0, 79) + ")", -41);
        rule("-".repeat(80), -41);
        rule("(".repeat(80), -5);
        rule("1234" + ones.substring(0, 50), -4);
    }

    private static void post() {
        Checks.of(6, "Of a CROSSING, what 0: how many WAYS it has, 1: number of its POST, 2: the CROSSING to which that goes, 3: CROWD, 4: TURN now, 5: the fewest WAYS to THE INN.");
        TurningPosts x = Checks.on("2;3;4;5;6;7111;0");
        Checks.rule(x, "c+1");
        x.points(6, 3);
        x.comes(6, 3);
        x.comes(7, 99);
        int[][] due = {{1, 0, 2, 0, 1, 7}, {1, 0, 3, 0, 1, 6}, {1, 0, 4, 0, 1, 5}, {1, 0, 5, 0, 1, 4}, {1, 0, 6, 0, 1, 3}, {4, 3, 1, 3, 4, 2}, {1, 0, 0, 99, 9, 1}};
        for (int v = 1; v <= 7; v++) {
            for (int what = 0; what < 6; what++) Checks.due("post(" + v + ", " + what + ")", Checks.post(x, v, what), due[v - 1][what]);
        }
        Checks.of(6, "Of THE INN: 0, 0, 0, HOUSED, 0, 0.");
        for (int what = 0; what < 6; what++) Checks.due("post(0, " + what + ")", Checks.post(x, 0, what), 0);
        for (int i = 0; i < 5; i++) x.goes(7);
        for (int what = 0; what < 6; what++) Checks.due("post(0, " + what + ") behind five", Checks.post(x, 0, what), what == 3 ? 5 : 0);
    }

    private static void postThrows() {
        Checks.of(6, "NoSuchElementException: none such, another what.");
        int[][] wrong = {{-1, 0}, {4, 0}, {8, 0}, {LEAST, 3}, {MOST, 3}, {0, -1}, {0, 6}, {1, -1}, {1, 6}, {3, 6}, {3, LEAST}, {3, MOST}, {-1, -1}, {4, 6}};
        for (int[] call : wrong) Checks.refused("post(" + call[0] + ", " + call[1] + ")", Checks::busy, x -> Checks.post(x, call[0], call[1]), THROWN);
        Checks.due("post(3, 5)", Checks.post(Checks.busy(), 3, 5), 1);
        Checks.due("post(7, 5) of seven", Checks.post(Checks.on("0;0;0;0;0;0;0"), 7, 5), 1);
        Checks.due("post(8, 5) of seven", Checks.post(Checks.on("0;0;0;0;0;0;0"), 8, 5), THROWN);
    }

    private static void way() {
        Checks.of(7, "The CROSSING to which WAY k of a CROSSING goes.");
        TurningPosts x = Checks.on("2345;1;0;0;0;0;6543");
        for (int k = 0; k < 4; k++) {
            Checks.due("way(1, " + k + ")", Checks.way(x, 1, k), k + 2);
            Checks.due("way(7, " + k + ")", Checks.way(x, 7, k), 6 - k);
        }
        Checks.due("way(2, 0)", Checks.way(x, 2, 0), 1);
        Checks.of(7, "NoSuchElementException: none such.");
        int[][] wrong = {{1, 4}, {7, 4}, {1, -1}, {2, 1}, {3, 1}, {0, 0}, {0, -1}, {8, 0}, {-1, 0}};
        for (int[] call : wrong) Checks.due("way(" + call[0] + ", " + call[1] + ")", Checks.way(x, call[0], call[1]), THROWN);
        int[][] others = {{4, 0}, {0, 0}, {-1, 0}, {1, 2}, {1, -1}, {MOST, 0}, {LEAST, 0}, {1, MOST}, {1, LEAST}};
        for (int[] call : others) Checks.refused("way(" + call[0] + ", " + call[1] + ")", Checks::busy, y -> Checks.way(y, call[0], call[1]), THROWN);
    }

    private static TurningPosts seven() {
        return Checks.on("0;0;0;0;0;0;0");
    }

    private static void sheet(TurningPosts x, int[] call, int want, String crowds) {
        String told = "sheet(" + call[0] + ", " + call[1] + ", " + call[2] + ", " + call[3] + ")";
        Checks.due(told, x.sheet(call[0], call[1], call[2], call[3]), want);
        Checks.due(told + ": CROWDS", Checks.crowds(x), crowds);
    }

    private static void sheet() {
        Checks.of(8, "CROWDS of CROSSINGS 1, 2, .., as a sheet tells them: bytes (kind 0), shorts (1), ints (2) of n entries f, f + step, ..");
        TurningPosts x = seven();
        for (int kind = 0; kind <= 2; kind++) {
            sheet(x, new int[] {kind, 7, 1, 1}, 28, "1 2 3 4 5 6 7");
            sheet(x, new int[] {kind, 7, 9, -1}, 42, "9 8 7 6 5 4 3");
            sheet(x, new int[] {kind, 3, 5, 0}, 15, "5 5 5 0 0 0 0");
            sheet(x, new int[] {kind, 1, 4, 4}, 4, "4 0 0 0 0 0 0");
            sheet(x, new int[] {kind, 0, 4, 4}, 0, "0 0 0 0 0 0 0");
        }
        sheet(Checks.on("0;0"), new int[] {2, 7, 4, 1}, 9, "4 5");
        x = Checks.busy();
        x.sheet(2, 3, 1, 1);
        Checks.due("HOUSED, STEPS, POSTS stay", x.count(2) + " " + x.count(3) + " " + Checks.posts(x), "1 2 0 1 1");
    }

    private static void sheetOfBytes() {
        Checks.of(8, "(of bytes, shorts the lowest bits, with their sign; put to 0 .. 9)");
        TurningPosts x = seven();
        sheet(x, new int[] {0, 7, 125, 1}, 27, "9 9 9 0 0 0 0");
        sheet(x, new int[] {0, 7, 254, 1}, 10, "0 0 0 1 2 3 4");
        sheet(x, new int[] {0, 7, 3, 256}, 21, "3 3 3 3 3 3 3");
        sheet(x, new int[] {0, 2, -253, -256}, 6, "3 3 0 0 0 0 0");
        sheet(x, new int[] {1, 7, 254, 1}, 63, "9 9 9 9 9 9 9");
        sheet(x, new int[] {1, 7, 32765, 1}, 27, "9 9 9 0 0 0 0");
        sheet(x, new int[] {1, 7, 65534, 1}, 10, "0 0 0 1 2 3 4");
        sheet(x, new int[] {1, 7, 3, 65536}, 21, "3 3 3 3 3 3 3");
        sheet(x, new int[] {2, 7, 65534, 1}, 63, "9 9 9 9 9 9 9");
        sheet(x, new int[] {2, 7, MOST - 2, 1}, 27, "9 9 9 0 0 0 0");
        sheet(x, new int[] {2, 7, -3, 1}, 6, "0 0 0 0 1 2 3");
        sheet(x, new int[] {2, 7, 7, 1}, 60, "7 8 9 9 9 9 9");
        sheet(x, new int[] {2, 3, LEAST, LEAST}, 0, "0 0 0 0 0 0 0");
        sheet(x, new int[] {2, 7, 5, 1 << 30}, 28, "5 9 0 0 5 9 0");
        sheet(x, new int[] {0, 4, MOST, MOST}, 0, "0 0 0 0 0 0 0");
    }

    private static void sheetMissing() {
        Checks.of(8, "or a missing one (3): those behind it have 0: the sum of all.");
        TurningPosts x = seven();
        sheet(x, new int[] {2, 7, 9, 0}, 63, "9 9 9 9 9 9 9");
        sheet(x, new int[] {2, 6, 1, 0}, 6, "1 1 1 1 1 1 0");
        Checks.due("walkers", x.count(4), 6);
        Checks.of(8, "-3: missing (all 0)");
        for (int n : new int[] {7, 3, 0, -1, LEAST}) {
            x.sheet(2, 7, 9, 0);
            sheet(x, new int[] {3, n, 5, 5}, -3, "0 0 0 0 0 0 0");
        }
        x = Checks.busy();
        x.sheet(3, 0, 0, 0);
        Checks.due("all else stays", x.count(3) + " " + Checks.posts(x) + " " + Checks.row(x) + " " + x.count(8) + " " + x.count(10), "2 0 1 1 0 1 1 6 3");
        Checks.of(8, "Can't be undone.");
        x = Checks.on("0;0");
        x.sheet(2, 2, 3, 0);
        Checks.due("nothing to undo", x.undo(), -1);
        Checks.due("it stays", Checks.crowds(x), "3 3");
        x.comes(1, 1);
        x.sheet(2, 2, 5, 0);
        x.sheet(3, 2, 5, 0);
        Checks.due("one to undo", x.count(8), 1);
        x.undo();
        Checks.due("as ahead of what came", Checks.crowds(x), "3 3");
    }

    private static void sheetRefused() {
        Checks.of(8, "-2: n below 0 (of kinds 0 .. 2; nothing changes)");
        for (int kind = 0; kind <= 2; kind++) {
            for (int n : new int[] {-1, -7, LEAST}) {
                int k = kind;
                Checks.refused("sheet(" + kind + ", " + n + ")", Checks::busy, x -> x.sheet(k, n, 1, 1), -2);
            }
        }
        Checks.of(8, "NONE: another kind, n above 7 (these first).");
        int[][] wrong = {{-1, 1}, {4, 1}, {MOST, 1}, {LEAST, 1}, {0, 8}, {1, 8}, {2, 8}, {3, 8}, {0, MOST}, {3, MOST}, {4, -1}, {-1, -1}, {4, 8}};
        for (int[] call : wrong) Checks.refused("sheet(" + call[0] + ", " + call[1] + ")", Checks::busy, x -> x.sheet(call[0], call[1], 1, 1), -1);
        Checks.due("n of 7", Checks.busy().sheet(0, 7, 1, 0), 3);
    }
}
