import java.util.ArrayList;
import java.util.List;
import java.util.function.ToLongFunction;

/** Edges that the section "Terms" names: CROSSINGS, WAYS, LINES, counts that are full, EXPRESSIONS, STEPS, BURSTS, the ROW. */
public final class TermsEdgesTest {
    private static final long THROWN = Checks.THROWN;

    public static void main(String[] args) {
        crossings();
        lines();
        postsAndCrowds();
        housed();
        steps();
        ruleText();
        comparisons();
        sumsAndProducts();
        minus();
        things();
        letters();
        turn();
        step();
        stepByTurn();
        bursts();
        rows();
        orderOfRows();
        fractions();
        questions();
        questionsOfSeven();
        refused();
        refusedText();
        noneFirst();
        rowStays();
        Checks.end("TermsEdgesTest");
    }

    private static void crossings() {
        Checks.of(0, "CROSSINGS 0, 1, .. (at first 0 and 1): 0 is THE INN.");
        TurningPosts x = new TurningPosts();
        Checks.due("crossings", x.count(0), 2);
        Checks.due("THE INN has no WAY", Checks.post(x, 0, 0), 0);
        Checks.due("1 is there", Checks.post(x, 1, 0), 1);
        Checks.due("2 is not", Checks.post(x, 2, 0), THROWN);
        Checks.of(0, "Of each other one a row of 1 to 4 WAYS (0, 1, ..), each to a CROSSING, not to itself");
        String[] nets = {";0", "0;;0", "0", "0000", "00000", "0;0000", "0;00000", "1", "0;2", "0;1;3", "2;0"};
        int[] answers = {-1, -3, 2, 2, -5, 3, -7, -1, -3, -5, 3};
        for (int i = 0; i < nets.length; i++) Checks.due("net " + nets[i], Checks.net(x, nets[i]), answers[i]);
        Checks.of(0, "(several can go to one; at first CROSSING 1 has one WAY, to 0)");
        x = new TurningPosts();
        Checks.due("one WAY", Checks.post(x, 1, 0), 1);
        Checks.due("to 0", Checks.way(x, 1, 0), 0);
        Checks.due("no other", Checks.way(x, 1, 1), THROWN);
        Checks.due("four to one", Checks.net(x, "2222;0"), 3);
        for (int k = 0; k < 4; k++) Checks.due("way(1, " + k + ")", Checks.way(x, 1, k), 2);
        Checks.of(0, "From each there are WAYS, one behind the other, to THE INN.");
        Checks.due("seven behind one another", Checks.net(x, "2;3;4;5;6;7;0"), 8);
        Checks.due("seven in a ring", Checks.net(x, "2;3;4;5;6;7;1"), -101);
    }

    private static void lines() {
        Checks.of(0, "They are told by a text of LINES with ; between, 1 to 7 of them");
        String[] nets = {"", "0", "0;0", "0;0;0;0;0;0", "0;0;0;0;0;0;0", "0;0;0;0;0;0;0;0", ";", "0;"};
        int[] answers = {-1, 2, 3, 7, 8, -15, -1, -3};
        for (int i = 0; i < nets.length; i++) Checks.due("net " + nets[i], Checks.net(new TurningPosts(), nets[i]), answers[i]);
        Checks.of(0, "those of CROSSINGS 1, 2, ..: digits, the CROSSINGS to which WAYS 0, 1, .. go. (n LINES: CROSSINGS 0 .. n.)");
        TurningPosts x = Checks.on("2345;6701;1;0;0;0;0");
        int[] first = {2, 3, 4, 5};
        int[] second = {6, 7, 0, 1};
        for (int k = 0; k < 4; k++) {
            Checks.due("way(1, " + k + ")", Checks.way(x, 1, k), first[k]);
            Checks.due("way(2, " + k + ")", Checks.way(x, 2, k), second[k]);
        }
        Checks.due("of the third LINE", Checks.way(x, 3, 0), 1);
        Checks.due("of the seventh LINE", Checks.way(x, 7, 0), 0);
        Checks.due("7 LINES, CROSSING 8", Checks.post(x, 8, 0), THROWN);
    }

    private static void postsAndCrowds() {
        Checks.of(0, "Each CROSSING but THE INN has a POST (the number of a WAY; at first 0) and a CROWD (of walkers; at first 0).");
        TurningPosts x = Checks.on("2222;0;1");
        Checks.due("at first", Checks.posts(x) + " " + Checks.crowds(x), "0 0 0 0 0 0");
        Checks.due("THE INN has no POST", x.points(0, 0), -1);
        Checks.due("THE INN has no CROWD", x.comes(0, 1), -1);
        Checks.due("the last WAY", x.points(1, 3), 10);
        Checks.due("no WAY more", x.points(1, 4), -1);
    }

    /** HOUSED is 9998, and kept under 0; 1 has three WAYS, all others one, all to THE INN. */
    private static TurningPosts nearlyFull() {
        TurningPosts x = Checks.on("000;0;0;0;0;0;0");
        for (int time = 0; time < 14; time++) {
            for (int v = 1; v <= 7; v++) x.comes(v, 99);
            x.calms();
        }
        x.comes(1, 99);
        x.comes(2, 99);
        x.comes(3, 98);
        x.calms();
        x.keep(0);
        return x;
    }

    private static void housed() {
        Checks.of(0, "HOUSED is how many have come to THE INN (0 .. 9999, no more is counted; at first 0).");
        TurningPosts x = nearlyFull();
        Checks.due("at first", new TurningPosts().count(2), 0);
        Checks.due("one is left", x.count(2), 9998);
        List<ToLongFunction<TurningPosts>> acts = List.of(y -> y.goes(4), y -> y.walks(4), y -> y.bursts(4), y -> Checks.day(y, "b4"));
        for (int i = 0; i < acts.size(); i++) {
            x.again(0);
            x.comes(4, 2);
            acts.get(i).applyAsLong(x);
            Checks.due("act " + i + ", one comes to THE INN", x.count(2), 9999);
            acts.get(i).applyAsLong(x);
            Checks.due("act " + i + ", one more", x.count(2), 9999);
            Checks.due("THE INN's own", x.post(0, 3), 9999);
            Checks.due("he is gone, too", x.count(4), 0);
        }
        x.undo();
        Checks.due("ahead of the last one", x.count(2), 9999);
        x.undo();
        Checks.due("ahead of the last but one", x.count(2), 9998);
        x.again(0);
        x.comes(1, 4);
        Checks.due("three by one BURST", x.bursts(1), 1);
        Checks.due("one is counted", x.count(2), 9999);
        x.again(0);
        x.comes(1, 6);
        x.comes(5, 9);
        Checks.due("15 by calms", x.calms(), 11);
        Checks.due("one of them is counted", x.count(2), 9999);
        // 9999 by 7 leaves 3, and would leave 4 next.
        Checks.rule(x, "h=3");
        Checks.due("no more is counted as he goes", x, x.round(1), 3, "3");
    }

    /** STEPS are 99998, and kept under 0. */
    static TurningPosts longWay() {
        TurningPosts x = Checks.on("025;165;27;377;47;577;66");
        x.comes(7, 70);
        for (int walker = 0; walker < 70; walker++) x.walks(7);
        x.comes(7, 69);
        for (int walker = 0; walker < 69; walker++) x.walks(7);
        x.comes(1, 1);
        x.walks(1);
        int at = 0;
        for (int gone = 0; gone < 44; gone++) {
            if (at == 0) x.comes(7, 1);
            at = x.goes(at == 0 ? 7 : at);
        }
        x.sheet(2, 0, 0, 0);
        x.keep(0);
        return x;
    }

    private static void steps() {
        Checks.of(0, "STEPS is how many steps were gone in all (0 .. 99999, no more is counted; at first 0).");
        Checks.due("at first", new TurningPosts().count(3), 0);
        TurningPosts x = longWay();
        Checks.due("one is left", x.count(3), 99998);
        x.comes(1, 2);
        x.goes(1);
        Checks.due("one STEP", x.count(3), 99999);
        x.goes(1);
        Checks.due("one more", x.count(3), 99999);
        x.again(0);
        x.comes(7, 1);
        Checks.due("more than one", x.walks(7) > 1, true);
        Checks.due("one of them is counted", x.count(3), 99999);
        // 99999 by 7 leaves 4, and would leave 5 next.
        Checks.rule(x, "");
        int far = x.home(7);
        Checks.rule(x, "n=4");
        Checks.due("no more is counted as he goes", x.home(7), far);
        Checks.due("STEPS by 7", x.post(1, 4), 1);
        x.undo();
        Checks.due("ahead of them", x.count(3), 99998);
    }

    private static void ruleText() {
        Checks.of(0, "THE RULE is a text of at most 40 signs (at first none: 1).");
        TurningPosts x = new TurningPosts();
        Checks.due("at first", x.post(1, 4), 1);
        Checks.due("40 signs", Checks.rule(x, "-".repeat(39) + "0"), 0);
        Checks.due("by it", x.post(1, 4), 0);
        Checks.due("41 signs", Checks.rule(x, "-".repeat(40) + "1"), -41);
        Checks.due("by the old one", x.post(1, 4), 0);
    }

    private static void value(String rule, int want) {
        TurningPosts x = new TurningPosts();
        Checks.due("rule " + rule, Checks.rule(x, rule), 0);
        Checks.due("value of " + rule, x.post(1, 4), want);
    }

    private static void fails(String rule, int want) {
        Checks.due("rule " + rule, Checks.rule(new TurningPosts(), rule), want);
    }

    private static void comparisons() {
        Checks.of(0, "EXPRESSION: < > = bind least (two; 1 or 0; not one behind the other)");
        String[] rules = {"1<2", "2<2", "3<2", "2>1", "2>2", "2>3", "2=2", "2=3", "3=2", "1+1<3", "1+2<3", "3<1+3", "5-3=2", "2=5-3", "2*3>5", "5>2*3", "-1<0", "0<-1",
            "(2<2)+5", "(3<2)+5", "(2>2)+5", "(2>3)+5", "(2=3)+5", "(3=2)+5", "((((1<2))))", "((((2>1))))", "((((2=2))))+3", "((((2<1))))", "(((1<2)))", "((1<2))", "(1<2)",
            "(1<2)<3", "1<(2<3)", "(3>2)=(2>1)", "((1<2)=1)+4", "(1<2)+(3<4)", "6*(1=1)"};
        int[] values = {1, 0, 0, 1, 0, 0, 1, 0, 0, 1, 0, 1, 1, 1, 1, 0, 1, 0, 5, 5, 5, 5, 5, 5, 1, 1, 4, 0, 1, 1, 1, 1, 0, 1, 5, 2, 6};
        for (int i = 0; i < rules.length; i++) value(rules[i], values[i]);
        for (char first : "<>=".toCharArray()) {
            for (char second : "<>=".toCharArray()) {
                fails("1" + first + "2" + second + "3", -4);
                fails("(1" + first + "2" + second + "3)", -5);
                fails("1" + first + "(2)+3" + second + "4", -8);
                fails("1" + first + second + "2", -3);
            }
            fails("(1<2)" + first + "3" + first + "4", -8);
            fails("1" + first + "(1" + first + "2)" + first + "3", -8);
            fails("" + first + "1", -1);
            fails("1" + first, -3);
        }
    }

    private static void sumsAndProducts() {
        Checks.of(0, "then + - (from the left)");
        String[] rules = {"1+2", "9-3-2", "9-3+2", "1-2+3", "1+2-3", "9-2*3", "2*3-1", "2+3*2", "8-6/2", "1+1+1+1"};
        int[] values = {3, 4, 8, 2, 0, 3, 5, 8, 5, 4};
        for (int i = 0; i < rules.length; i++) value(rules[i], values[i]);
        for (String rule : new String[] {"+1", "1++2", "1-+2"}) fails(rule, rule.equals("+1") ? -1 : -3);
        Checks.of(0, "then * / (from the left; by 0: 0; cut to 0)");
        rules = new String[] {"2*3", "8/4*2", "8/4/2", "8*2/4", "3/2*2", "2*3/4", "7/0", "7/0+5", "0/0", "5*0", "7/(2-2)", "1/2", "7/4", "9-7/4", "8+-7/2+1", "8+7/-2+1", "-7/-2", "8+-1/2",
            "8+1/-2", "9-9/10"};
        values = new int[] {6, 4, 1, 4, 2, 1, 0, 5, 0, 0, 0, 0, 1, 8, 6, 6, 3, 8, 8, 9};
        for (int i = 0; i < rules.length; i++) value(rules[i], values[i]);
        for (String rule : new String[] {"*1", "/1", "1**2", "1*/2", "1//2"}) fails(rule, rule.length() == 2 ? -1 : -3);
    }

    private static void minus() {
        Checks.of(0, "then - ahead of a thing (any many)");
        String[] rules = {"-1+3", "--3", "---3+8", "3--2", "3---2", "2*-3+9", "-2*-3", "9+-2*3", "-(2)+5", "-(2-5)", "--(2)", "9/-3+5", "-d+3", "-1<0", "0>-1", "-".repeat(38) + "7", "-".repeat(39) + "7"};
        int[] values = {2, 3, 5, 5, 1, 3, 6, 3, 3, 3, 2, 2, 2, 1, 1, 7, 0};
        for (int i = 0; i < rules.length; i++) value(rules[i], values[i]);
        fails("-", -2);
        fails("--", -3);
        fails("-)", -2);
        fails("-<1", -2);
        fails("2-", -3);
    }

    private static void things() {
        Checks.of(0, "things: a NUMBER of 1 to 3 digits");
        String[] rules = {"7", "0", "00", "007", "10/5", "99/11", "100/20", "999/111", "999-990"};
        int[] values = {7, 0, 0, 7, 2, 9, 5, 9, 9};
        for (int i = 0; i < rules.length; i++) value(rules[i], values[i]);
        String[] failing = {"1234", "0000", "1+1234", "d1", "1d", "(1)2", "2(1)", "dd", "d(", "(d)k", "1 ", ".5", "D", "x", "/", ":", "\u00b2", "1;2"};
        int[] answers = {-4, -4, -6, -2, -2, -4, -2, -2, -2, -4, -2, -1, -1, -1, -1, -1, -1, -2};
        for (int i = 0; i < failing.length; i++) fails(failing[i], answers[i]);
        Checks.of(0, "an EXPRESSION in ( ) (at most 4 in one another)");
        value("(3)", 3);
        value("((((3))))", 3);
        value("((((1))))+((((2))))", 3);
        value("((((1)+(1))+(1))+(1))", 4);
        value("9-(3-2)", 8);
        value("(1+2)*3", 9);
        value("(1<2)*5", 5);
        String[] parted = {"(((((3)))))", "((((1))))+(((((", "()", "(", ")", "(1", "(1))", "((1)", "(1+)", "(+1)", "(1)(2)", "((((", "(((("+ "("};
        int[] parts = {-5, -15, -2, -2, -1, -3, -4, -5, -4, -2, -4, -5, -5};
        for (int i = 0; i < parted.length; i++) fails(parted[i], parts[i]);
    }

    private static int turn(TurningPosts x, String rule, int crossing) {
        Checks.due("rule " + rule, Checks.rule(x, rule), 0);
        return x.post(crossing, 4);
    }

    private static void letters() {
        Checks.of(0, "and, of a CROSSING (not 0): d how many WAYS it has, k number of its POST, w the CROSSING to which that goes, c CROWD, i its number, h HOUSED by 7 (rest), n STEPS by 7 (rest).");
        TurningPosts x = Checks.on("2000;1;1;1;1;1;0123");
        x.points(7, 3);
        x.comes(7, 8);
        String letters = "dkwcihn";
        int[] first = {4, 0, 2, 0, 1, 0, 0};
        int[] last = {4, 3, 3, 8, 7, 0, 0};
        for (int i = 0; i < letters.length(); i++) {
            Checks.due(letters.charAt(i) + " of 1", turn(x, letters.substring(i, i + 1), 1), first[i]);
            Checks.due(letters.charAt(i) + " of 7", turn(x, letters.substring(i, i + 1), 7), last[i]);
        }
        x = new TurningPosts();
        x.comes(1, 9);
        for (int gone = 1; gone <= 8; gone++) {
            x.goes(1);
            Checks.due("h behind " + gone, turn(x, "h", 1), gone == 8 ? 1 : gone % 7);
            Checks.due("n behind " + gone, turn(x, "n", 1), gone == 8 ? 1 : gone % 7);
        }
        x.bursts(1);
        Checks.due("h behind a BURST", turn(x, "h", 1), 2);
        Checks.due("n behind a BURST", turn(x, "n", 1), 1);
        Checks.due("of THE INN", Checks.post(x, 0, 4), 0);
    }

    private static void turn() {
        Checks.of(0, "As ints, put to 0 .. 9: TURN.");
        value("0", 0);
        value("9", 9);
        value("10", 9);
        value("999", 9);
        value("-1", 0);
        value("0-999", 0);
        // 2 ^ 31 is the least int, one less the greatest one.
        value("512*512*512*16<0", 1);
        value("512*512*512*16-1>0", 1);
        value("512*512*512*16=-(512*512*512*16)", 1);
        value("512*512*512*16/-1<0", 1);
        value("512*512*512*32=0", 1);
        value("512*512*512*32+7", 7);
        value("-512*512*512*16-1>0", 1);
    }

    private static void step() {
        Checks.of(0, "A STEP of a walker who is at a CROSSING (not 0): CROWD there is 1 less");
        TurningPosts x = Checks.on("2;0000");
        x.comes(1, 1);
        Checks.due("he goes", x.goes(1), 2);
        Checks.due("none is there", Checks.post(x, 1, 3), 0);
        Checks.due("nor can one go", x.goes(1), -2);
        Checks.of(0, "he goes the WAY of the POST; the POST is TURN more (rest by how many WAYS there are)");
        int[] then = {0, 1, 2, 3, 0, 1, 2, 3, 0, 1};
        for (int turn = 0; turn <= 9; turn++) {
            for (int post = 0; post < 4; post++) {
                TurningPosts y = Checks.on("2345;0;0;0;0");
                Checks.rule(y, "" + turn);
                y.points(1, post);
                y.comes(1, 1);
                Checks.due("by POST " + post, y.goes(1), post + 2);
                Checks.due("POST " + post + ", TURN " + turn, y.post(1, 1), (post + then[turn]) % 4);
            }
        }
        Checks.of(0, "where he comes to, CROWD is 1 more (at THE INN HOUSED is); STEPS is 1 more.");
        Checks.due("where he is", Checks.crowds(x) + " " + x.count(2) + " " + x.count(3), "0 1 0 1");
        Checks.due("to THE INN", x.goes(2), 0);
        Checks.due("HOUSED", Checks.crowds(x) + " " + x.count(2) + " " + x.count(3), "0 0 1 2");
        x = Checks.on("2;0");
        x.comes(1, 1);
        x.comes(2, 99);
        x.goes(1);
        Checks.due("100 by a STEP", Checks.post(x, 2, 3), 100);
    }

    private static void stepByTurn() {
        Checks.of(0, "TURN is as all is then");
        TurningPosts x = Checks.on("0000;0000");
        Checks.rule(x, "c");
        x.comes(1, 1);
        x.goes(1);
        Checks.due("he is of the CROWD no more", Checks.post(x, 1, 1), 0);
        x.comes(1, 3);
        x.goes(1);
        Checks.due("two are left", Checks.post(x, 1, 1), 2);
        x.goes(1);
        Checks.due("one is left", Checks.post(x, 1, 1), 3);
        Checks.rule(x, "h");
        x.comes(2, 1);
        x.goes(2);
        Checks.due("three were housed ahead of it", Checks.post(x, 2, 1), 3);
        Checks.rule(x, "n-2");
        x.comes(2, 1);
        x.goes(2);
        Checks.due("four STEPS were gone ahead of it", Checks.post(x, 2, 1), 1);
        x = Checks.on("0340;1;1;1");
        Checks.rule(x, "w");
        x.points(1, 1);
        x.comes(1, 1);
        x.goes(1);
        Checks.due("the POST went to 3", Checks.post(x, 1, 1), 0);
        Checks.rule(x, "k");
        x.points(1, 3);
        x.comes(1, 1);
        x.goes(1);
        Checks.due("the POST was 3", Checks.post(x, 1, 1), 2);
    }

    private static void bursts() {
        Checks.of(0, "A CROWD BURSTS that is as many as WAYS or more: it is as many less, and by each WAY one goes (POSTS stay, nothing is a STEP).");
        TurningPosts x = Checks.on("0223;0;0");
        Checks.rule(x, "3");
        x.comes(1, 3);
        Checks.due("one too few", x.bursts(1), -2);
        Checks.due("they stay", Checks.crowds(x), "3 0 0");
        x.comes(1, 1);
        Checks.due("as many", x.bursts(1), 0);
        Checks.due("by each WAY one", Checks.crowds(x) + " " + x.count(2), "0 2 1 1");
        Checks.due("POSTS, STEPS", Checks.posts(x) + " " + x.count(3), "0 0 0 0");
        x.comes(1, 5);
        Checks.due("one more", x.bursts(1), 1);
        x.comes(2, 95);
        x.comes(1, 5);
        x.bursts(1);
        Checks.due("a CROWD above 99", Checks.post(x, 2, 3), 101);
    }

    private static void rows() {
        Checks.of(0, "ROW: numbers told last by a call that says so.");
        TurningPosts x = Checks.on("2;3;4;5;6;7;0");
        Checks.due("none at first", x.count(9), 0);
        x.route(1, 0);
        Checks.due("seven", Checks.row(x), "2 3 4 5 6 7 0");
        x.comes(1, 1);
        x.points(1, 0);
        x.bursts(1);
        x.undo();
        x.grown();
        x.keep(0);
        x.again(0);
        x.seen(1, 1, 2);
        x.forget();
        x.heard(0, 1);
        x.denies();
        x.sheet(2, 1, 1, 1);
        x.sheet(3, 0, 0, 0);
        Checks.rule(x, "2");
        x.count(0);
        x.post(1, 0);
        x.way(1, 0);
        x.row(0);
        Checks.due("others leave it", Checks.row(x), "2 3 4 5 6 7 0");
        Checks.net(x, "2;0");
        Checks.due("a net leaves it", Checks.row(x), "2 3 4 5 6 7 0");
        x.fits();
        Checks.due("a shorter one is all there is", Checks.row(x), "2");
        Checks.of(0, "Sets are bits (of CROSSINGS: bit 0 THE INN).");
        x = Checks.on("2;3;4;5;6;7;0");
        Checks.due("all", x.follows(1), 255);
        Checks.due("7 and THE INN", x.follows(7), 129);
        Checks.due("THE INN", x.parish(0), 1);
        Checks.due("7", x.parish(7), 128);
        x.comes(1, 1);
        x.comes(7, 1);
        Checks.due("1 and 7 have a CROWD", x.count(5), 130);
        Checks.due("walked through all", x.walks(1), 7);
        Checks.due("through all", Checks.row(x), "255");
    }

    private static void orderOfRows() {
        Checks.of(0, "Rows are compared from the first number on.");
        TurningPosts x = Checks.on("00;00");
        String[] rows = {"0 0", "0 1", "1 0", "1 1"};
        for (int n = 0; n < 4; n++) Checks.due("TREE " + n, x, x.plants(n), 0, rows[n]);
        x = Checks.on("32;6;4;0;0;0");
        Checks.due("the first number decides", x, x.route(1, 0), 3, "2 6 0");
        x = Checks.on("23;65;4;0;0;0");
        Checks.due("then the second", x, x.route(1, 0), 3, "2 5 0");
        Checks.due("0 1 ahead of 1 0 and 2 2", x, x.crowds(2, 2), 1, "0 1");
    }

    private static void fractions() {
        Checks.of(0, "Fractions are told in lowest terms, upper and lower number (0 by 1).");
        TurningPosts x = Checks.on("0022;1");
        Checks.due("two of four", x, x.odds(1, 1, 2), 0, "1 2");
        Checks.due("none", x, x.odds(1, 1, 1), 0, "0 1");
        Checks.due("all", x, x.odds(1, 0, 1), 0, "1 1");
        Checks.due("two of four meet", x, x.meets(1, 2), 0, "1 2");
        Checks.due("a mean of 6 by 2", x, x.mean(1), 3, "3 1");
        x = Checks.on("0;0");
        Checks.due("never", x, x.meets(1, 2), 0, "0 1");
    }

    private static List<ToLongFunction<TurningPosts>> allQuestions() {
        List<ToLongFunction<TurningPosts>> all = new ArrayList<>();
        all.addAll(List.of(x -> x.post(2, 4), x -> x.way(2, 1), x -> x.later(2, 9), x -> x.home(2), x -> x.pass(2, 3, 9), x -> x.round(2), x -> x.follows(2), x -> x.tree()));
        all.addAll(List.of(x -> x.trees(), x -> x.plants(1), x -> x.grown(), x -> x.mends(), x -> x.route(3, 1), x -> x.gates(2), x -> x.parish(2), x -> x.mean(2)));
        all.addAll(List.of(x -> x.meets(2, 3), x -> x.odds(2, 8, 1), x -> x.ready(), x -> x.unit(), x -> x.returns(), x -> x.joins(0), x -> x.recurs(2), x -> x.trigger()));
        all.addAll(List.of(x -> x.guess(2), x -> x.looks(2), x -> x.fits(), x -> x.asks(), x -> x.crowds(7, 9), x -> x.waits(5), x -> x.years(7, 60)));
        all.addAll(List.of(x -> x.count(4), x -> x.row(0)));
        return all;
    }

    private static void questions() {
        Checks.of(0, "Questions change nothing.");
        List<ToLongFunction<TurningPosts>> all = allQuestions();
        for (int i = 0; i < all.size(); i++) {
            for (boolean isCalm : new boolean[] {false, true}) {
                TurningPosts x = Checks.busy();
                TurningPosts y = Checks.busy();
                if (isCalm) x.calms();
                if (isCalm) y.calms();
                long first = all.get(i).applyAsLong(x);
                Checks.due("question " + i + " twice", all.get(i).applyAsLong(x), first);
                // The ROW alone may be another one.
                x.fits();
                y.fits();
                Checks.due("question " + i + ": the state behind it", Whole.of(x), Whole.of(y));
            }
        }
        TurningPosts x = Checks.busy();
        TurningPosts y = Checks.busy();
        y.end(0);
        Checks.law(x, "3");
        x.fits();
        y.fits();
        Checks.due("law, but for THE TEXT", Whole.of(x), Whole.of(y));
    }

    /** That questions leave the last CROSSING of seven as it is, too. */
    private static void questionsOfSeven() {
        Checks.of(0, "Questions change nothing.");
        List<ToLongFunction<TurningPosts>> all = new ArrayList<>();
        all.addAll(List.of(x -> x.later(7, 9), x -> x.home(7), x -> x.pass(7, 1, 9), x -> x.round(7), x -> x.follows(7), x -> x.plants(9), x -> x.mends(), x -> x.joins(1)));
        all.addAll(List.of(x -> x.unit(), x -> x.guess(7), x -> x.looks(7), x -> x.years(9, 60), x -> Checks.law(x, "2")));
        for (int i = 0; i < all.size(); i++) {
            TurningPosts x = Checks.busyOfSeven();
            TurningPosts y = Checks.busyOfSeven();
            all.get(i).applyAsLong(x);
            x.fits();
            y.fits();
            Checks.due("question " + i + " of seven: the state behind it", Whole.of(x), Whole.of(y));
        }
    }

    private static void refused() {
        Checks.of(0, "Refused calls answer NONE, or false, and change nothing but THE TEXT, which a call that reads it empties.");
        List<ToLongFunction<TurningPosts>> all = new ArrayList<>();
        all.addAll(List.of(x -> x.sheet(4, 0, 0, 0), x -> x.comes(0, 1), x -> x.goes(0), x -> x.walks(4), x -> x.bursts(0), x -> x.points(1, 2), x -> x.later(1, 100), x -> x.home(0)));
        all.addAll(List.of(x -> x.pass(1, 1, 61), x -> x.round(0), x -> x.follows(0), x -> x.plants(1000), x -> x.route(4, 0), x -> x.gates(0), x -> x.parish(4), x -> x.mean(0)));
        all.addAll(List.of(x -> x.meets(1, 0), x -> x.odds(1, 9, 1), x -> x.joins(3), x -> x.recurs(0), x -> x.seen(0, 1, 1), x -> x.guess(0), x -> x.looks(0), x -> x.heard(0, 5)));
        all.addAll(List.of(x -> x.crowds(31, 1), x -> x.waits(10), x -> x.years(1, 61)));
        for (int i = 0; i < all.size(); i++) Checks.refused("call " + i, Checks::busy, all.get(i), TurningPosts.NONE);
        all.clear();
        all.addAll(List.of(x -> x.end(4) ? 1 : 0, x -> x.end(-1) ? 1 : 0, x -> x.keep(3) ? 1 : 0, x -> x.again(1) ? 1 : 0, x -> x.again(3) ? 1 : 0));
        for (int i = 0; i < all.size(); i++) Checks.refused("call " + i + " that is false", Checks::busy, all.get(i), 0);
        Checks.refused("undo of none", TurningPosts::new, TurningPosts::undo, TurningPosts.NONE);
        Checks.refused("sign on 80", TermsEdgesTest::fullText, x -> x.sign(0), TurningPosts.NONE);
    }

    private static TurningPosts fullText() {
        TurningPosts x = new TurningPosts();
        for (int i = 0; i < 20; i++) x.sign('0');
        return x;
    }

    private static void refusedText() {
        Checks.of(0, "change nothing but THE TEXT, which a call that reads it empties.");
        List<ToLongFunction<TurningPosts>> readers = List.of(x -> x.net(), x -> x.rule(), x -> x.day(), x -> x.law());
        for (int i = 0; i < readers.size(); i++) {
            Checks.refused("reader " + i, Checks::busy, "?", readers.get(i), i == 3 ? -10000 : -1);
            for (String text : new String[] {"?", "0", "a", "-", "2;1", ""}) {
                TurningPosts x = Checks.busy();
                Checks.text(x, text);
                readers.get(i).applyAsLong(x);
                Checks.due("signs of " + text + " behind reader " + i, x.count(10), 0);
            }
        }
    }

    private static void noneFirst() {
        Checks.of(0, "NONE comes ahead of other answers below 0");
        TurningPosts x = Checks.on("20;1");
        Checks.rule(x, "0");
        x.comes(1, 99);
        Checks.due("comes, not -2", x.comes(1, 100), -1);
        Checks.due("comes to THE INN, not -2", x.comes(0, 99), -1);
        Checks.due("goes, not -2", x.goes(3), -1);
        Checks.due("walks, not -2", x.walks(0), -1);
        Checks.due("bursts, not -2", x.bursts(3), -1);
        Checks.due("recurs, not -2", x.recurs(0), -1);
        Checks.due("joins, not -2", x.joins(3), -1);
        Checks.due("plants, not -2", x.plants(1000), -1);
        Checks.due("route, not -2", x.route(0, 3), -1);
        Checks.due("home, not -3", x.home(3), -1);
        Checks.due("pass of 61, not -3", x.pass(1, 1, 61), -1);
        Checks.due("pass through THE INN, not -3", x.pass(1, 0, 1), -1);
        Checks.due("round, not -3", x.round(0), -1);
        Checks.due("sheet of no kind, not -2", x.sheet(4, -1, 0, 0), -1);
        Checks.due("sheet of 8, missing, not -3", x.sheet(3, 8, 0, 0), -1);
        x.seen(1, 1, 0);
        x.seen(1, 1, 2);
        Checks.due("none is left", x.looks(1), -2);
        Checks.due("looks, not -2", x.looks(0), -1);
    }

    /** Each answer below 0 of a call that tells a ROW, or could be taken to; of a net whose POSTS turn in a ring, with CROWDS 9 0, nothing kept. */
    private static void rowStays() {
        Checks.of(0, "the ROW stays with each answer below 0 (but law()'s of -999 and above).");
        TurningPosts x = Checks.on("20;1");
        Checks.rule(x, "0");
        x.comes(1, 9);
        x.seen(1, 1, 0);
        x.seen(1, 1, 2);
        x.heard(0, 4);
        x.crowds(30, 30);
        List<ToLongFunction<TurningPosts>> all = new ArrayList<>();
        all.addAll(List.of(y -> y.goes(2), y -> y.goes(0), y -> y.walks(2), y -> y.walks(1), y -> y.walks(0), y -> y.bursts(2), y -> y.later(0, 1), y -> y.home(1)));
        all.addAll(List.of(y -> y.home(0), y -> y.pass(1, 1, 1), y -> y.pass(1, 1, 0), y -> y.round(1), y -> y.round(0), y -> y.follows(0), y -> y.plants(1), y -> y.plants(-1)));
        all.addAll(List.of(y -> y.grown(), y -> y.route(0, 1), y -> y.route(3, 1), y -> y.gates(0), y -> y.parish(3), y -> y.mean(0), y -> y.meets(1, 0), y -> y.odds(1, 9, 0)));
        all.addAll(List.of(y -> y.returns(), y -> y.joins(0), y -> y.joins(3), y -> y.recurs(1), y -> y.recurs(0), y -> y.trigger(), y -> y.guess(0), y -> y.looks(1), y -> y.looks(0)));
        all.addAll(List.of(y -> y.asks(), y -> y.crowds(31, 0), y -> y.waits(10), y -> y.years(1, 61), y -> y.count(11), y -> y.undo() - 9, y -> y.comes(1, 100), y -> y.points(1, 0)));
        all.addAll(List.of(y -> Checks.net(y, "1"), y -> Checks.net(y, "3"), y -> Checks.net(y, "2;1"), y -> Checks.rule(y, "1+"), y -> Checks.day(y, "a1"), y -> Checks.law(y, "1+"), y -> y.sheet(3, 0, 0, 0)));
        for (int i = 0; i < all.size(); i++) {
            Checks.due("call " + i + " is below 0", all.get(i).applyAsLong(x) < 0, true);
            Checks.due("the ROW behind call " + i, Checks.row(x), "30 30");
        }
        x = Checks.on("20;1");
        Checks.rule(x, "0");
        Checks.due("law above -1000", x, Checks.law(x, ""), 4 - 1000, "4 1000");
    }
}
