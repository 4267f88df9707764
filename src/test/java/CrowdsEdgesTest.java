/** Edges that promises 33 to 38 name: CROWDS that can BURST, THE UNIT, CROWDS that come back. */
public final class CrowdsEdgesTest {
    private static final int LEAST = Integer.MIN_VALUE;
    private static final int MOST = Integer.MAX_VALUE;
    /** Of a net of two LINES: THE INN, and none such. */
    private static final int[] NO_POST = {0, -1, 3, 7, 8, MOST, LEAST};
    private static final String LONG = "0777;1777;2777;3777;4777;5777;6666";

    public static void main(String[] args) {
        ready();
        unit();
        unitTooOften();
        returns();
        returnsRefused();
        joins();
        joinsTooOften();
        joinsRefused();
        recurs();
        recursNever();
        recursRefused();
        trigger();
        triggerRefused();
        Checks.end("CrowdsEdgesTest");
    }

    /** Two CROSSINGS with two WAYS each, to THE INN and to one another; a ROW is told. */
    private static TurningPosts two(int first, int second) {
        TurningPosts x = Checks.on("02;01");
        if (first > 0) x.comes(1, first);
        if (second > 0) x.comes(2, second);
        x.crowds(30, 30);
        return x;
    }

    private static void ready() {
        Checks.of(33, "CROWDS (bits) that can BURST: them; the ROW: how many of these, walkers of all CROWDS together.");
        TurningPosts x = Checks.on("0;00;000;0000;0;0;0");
        Checks.due("none", x, x.ready(), 0, "0 0");
        x.comes(2, 1);
        x.comes(3, 2);
        x.comes(4, 3);
        Checks.due("one too few each", x, x.ready(), 0, "0 6");
        for (int v = 2; v <= 4; v++) x.comes(v, 1);
        Checks.due("just as many", x, x.ready(), 28, "3 9");
        x.comes(1, 1);
        x.comes(7, 99);
        Checks.due("1 and 7, too", x, x.ready(), 158, "5 109");
        for (int v = 1; v <= 7; v++) x.comes(v, 99 - (int) x.post(v, 3));
        Checks.due("all", x, x.ready(), 254, "7 693");
        x.goes(7);
        Checks.due("THE INN is no CROWD", x, x.ready(), 254, "7 692");
    }

    private static void unit() {
        Checks.of(34, "THE UNIT is a row of CROWDS, of CROSSINGS 1, 2, ..: M is that of as many as WAYS less 1, each; M twice (each twice as many), less what that is when it is calmed (CROSSING by CROSSING), and that calmed, is THE UNIT: walkers of it; the ROW: it.");
        TurningPosts x = Checks.on("0;0;0;0;0;0;0");
        Checks.due("of one WAY each M is 0", x, x.unit(), 0, "0 0 0 0 0 0 0");
        x = Checks.on("0000;0000");
        // 6 is calmed to 2; 4 to 0.
        Checks.due("of four WAYS to THE INN", x, x.unit(), 0, "0 0");
        x = Checks.on("02;01");
        // 2 2 is calmed to 1 1; so is what is left, 1 1.
        Checks.due("of two each", x, x.unit(), 2, "1 1");
        x.comes(1, 50);
        x.points(1, 1);
        Checks.due("whatever CROWDS there are", x, x.unit(), 2, "1 1");
        x = Checks.on("02;13;20");
        Checks.due("of three", x, x.unit(), 2, "1 0 1");
        x = Checks.on("0023;0013;0012");
        Checks.due("of four each", x, x.unit(), unitByHand(x, "0023;0013;0012"), Checks.row(x));
        String seven = "2300;3400;4500;5600;6700;7100;0012";
        x = Checks.on(seven);
        Checks.due("of all seven", x, x.unit(), unitByHand(x, seven), Checks.row(x));
        seven = "2;3;4;5;6;7;6660";
        x = Checks.on(seven);
        Checks.due("of the last of seven alone", x, x.unit(), unitByHand(x, seven), Checks.row(x));
        x = Checks.on("0222;1111;2220");
        Checks.due("there and back", x, x.unit(), unitByHand(x, "0222;1111;2220"), Checks.row(x));
    }

    /** By acts, as the document tells it; the ROW must be as CROWDS are then. */
    private static int unitByHand(TurningPosts like, String net) {
        TurningPosts y = Checks.on(net);
        int[] twice = new int[8];
        for (int v = 1; v < y.count(0); v++) {
            twice[v] = 2 * (y.post(v, 0) - 1);
            y.comes(v, twice[v]);
        }
        y.calms();
        int[] less = new int[8];
        for (int v = 1; v < y.count(0); v++) less[v] = twice[v] - y.post(v, 3);
        y.sheet(3, 0, 0, 0);
        for (int v = 1; v < y.count(0); v++) y.comes(v, less[v]);
        y.calms();
        Checks.due("the ROW of THE UNIT", Checks.row(like), Checks.crowds(y));
        return y.count(4);
    }

    private static TurningPosts longOne() {
        TurningPosts x = Checks.on(LONG);
        x.crowds(30, 30);
        return x;
    }

    /** M twice BURSTS so often. */
    private static int burstsOfTwice(String net) {
        TurningPosts y = Checks.on(net);
        for (int v = 1; v < y.count(0); v++) y.comes(v, 2 * (y.post(v, 0) - 1));
        return y.calms();
    }

    private static void unitTooOften() {
        Checks.of(34, "-3: some would BURST more than 9999 times.");
        String just = "0577;17;2777;377;47;5777;66";
        Checks.due("9999 of M twice", burstsOfTwice(just), 9999);
        Checks.due("they do", Checks.on(just).unit(), 13);
        String over = "06;157;277;3777;477;5777;66";
        Checks.due("10000 of M twice", burstsOfTwice(over), -3);
        Checks.refused("they would", () -> Checks.on(over), TurningPosts::unit, -3);
        Checks.refused("far more", CrowdsEdgesTest::longOne, TurningPosts::unit, -3);
    }

    private static void returns() {
        Checks.of(35, "CROWDS come back, if none can BURST, and if THE UNIT added to them (CROSSING by CROSSING), all calmed, leaves them as they are: 1, else 0; the ROW: what they are then (of CROSSINGS 1, 2, ..).");
        int[][] crowds = {{0, 0}, {0, 1}, {1, 0}, {1, 1}};
        int[] answers = {0, 1, 1, 1};
        String[] rows = {"1 1", "0 1", "1 0", "1 1"};
        for (int i = 0; i < 4; i++) {
            TurningPosts x = two(crowds[i][0], crowds[i][1]);
            Checks.due("CROWDS " + Checks.crowds(x), x, x.returns(), answers[i], rows[i]);
        }
        TurningPosts x = new TurningPosts();
        Checks.due("none at one WAY", x, x.returns(), 1, "0");
        x = Checks.on("0000;0000");
        Checks.due("THE UNIT is empty", x, x.returns(), 1, "0 0");
        x.comes(1, 3);
        x.comes(2, 3);
        Checks.due("M", x, x.returns(), 1, "3 3");
    }

    private static void returnsRefused() {
        Checks.of(35, "-2: some can BURST");
        Checks.refused("two at 1", () -> two(2, 0), TurningPosts::returns, -2);
        Checks.refused("two at 2", () -> two(1, 2), TurningPosts::returns, -2);
        Checks.due("one each", two(1, 1).returns(), 1);
        TurningPosts x = new TurningPosts();
        x.comes(1, 1);
        Checks.due("one at one WAY", x.returns(), -2);
        x = longOne();
        x.comes(7, 4);
        Checks.due("some can BURST, and THE UNIT would too often", x.returns(), -2);
        Checks.of(35, "-3: as unit(), or by this calming.");
        Checks.refused("as unit()", CrowdsEdgesTest::longOne, TurningPosts::returns, -3);
        // CROWDS that are calm and THE UNIT are together no more than M twice: so unit() has -3 as well.
        Checks.refused("as unit(), 10000", () -> Checks.on("06;157;277;3777;477;5777;66"), TurningPosts::returns, -3);
        Checks.due("9999 of M twice", Checks.on("0577;17;2777;377;47;5777;66").returns() >= 0, true);
    }

    private static void joins() {
        Checks.of(36, "CROWDS as they were kept under a number 0 .. 2 (as keep()), added to those of now (CROSSING by CROSSING) and calmed: how often they would BURST; the ROW: what they are then.");
        for (int i = 0; i <= 2; i++) {
            TurningPosts x = two(0, 1);
            x.keep(i);
            Checks.due("0 1 and 0 1", x, x.joins(i), 1, "1 0");
            x.sheet(2, 2, 1, 0);
            // 1 2: 2 0, 0 1.
            Checks.due("1 1 and 0 1", x, x.joins(i), 2, "0 1");
            x.sheet(3, 0, 0, 0);
            x.crowds(30, 30);
            Checks.due("0 0 and 0 1", x, x.joins(i), 0, "0 1");
            Checks.due("nothing changes", Checks.crowds(x) + " " + x.count(2), "0 0 0");
            x.sheet(2, 2, 9, 0);
            x.keep(i);
            x.again(i);
            Checks.due("anew", x.joins(i) > 2, true);
        }
        TurningPosts x = Checks.on("0000;0000;0000;0000;0000;0000;0000");
        comeToAll(x, "1201203");
        x.keep(1);
        x.sheet(3, 0, 0, 0);
        comeToAll(x, "1122013");
        Checks.due("CROSSING by CROSSING", x, x.joins(1), 1, "2 3 2 3 2 1 2");
        Checks.due("those of now stay", Checks.crowds(x), "1 1 2 2 0 1 3");
        for (int v = 1; v <= 7; v++) {
            x = Checks.on("0000;0000;0000;0000;0000;0000;0000");
            x.comes(v, 99);
            x.keep(2);
            x.bursts(v);
            Checks.due("99 and 95 at " + v, x.joins(2), 48);
            Checks.due("two are left", x.row(v - 1), 2);
        }
    }

    /** Of each digit so many come to CROSSINGS 1, 2, .. */
    private static void comeToAll(TurningPosts x, String many) {
        for (int v = 1; v <= many.length(); v++) {
            if (many.charAt(v - 1) > '0') x.comes(v, many.charAt(v - 1) - '0');
        }
    }

    /** Kept under 1 and come together they BURST 9999 times, and once more for each one more at 1. */
    private static TurningPosts much(int more) {
        TurningPosts x = Checks.on("0;0777;2777;3777;4777;5777;6666");
        x.comes(7, 30);
        x.keep(1);
        x.undo();
        x.comes(1, 5 + more);
        x.comes(2, 1);
        x.comes(6, 3);
        x.crowds(30, 30);
        return x;
    }

    private static void joinsTooOften() {
        Checks.of(36, "-3: more than 9999 times");
        Checks.due("9999", much(0).joins(1), 9999);
        TurningPosts x = much(1);
        Checks.due("10000", x.joins(1), -3);
        Checks.due("the ROW stays", Checks.row(x), "30 30");
        Checks.due("CROWDS stay", Checks.crowds(x), "6 1 0 0 0 3 0");
    }

    private static void joinsRefused() {
        Checks.of(36, "-2: nothing is kept there");
        for (int i = 0; i <= 2; i++) {
            int number = i;
            Checks.refused("joins(" + i + ")", () -> two(1, 1), y -> y.joins(number), -2);
        }
        Checks.refused("joins(1), 0 and 2 are kept", Checks::busy, y -> y.joins(1), -2);
        TurningPosts x = two(1, 1);
        x.keep(1);
        Checks.net(x, "02;01");
        Checks.due("a net forgets it", x.joins(1), -2);
        Checks.of(36, "NONE: another number.");
        for (int i : new int[] {-1, 3, 4, 31, 32, 33, 34, MOST, LEAST}) Checks.refused("joins(" + i + ")", Checks::busy, y -> y.joins(i), -1);
    }

    private static void recurs() {
        Checks.of(37, "How often one comes to a CROSSING, all being calmed each time, till CROWDS are as they are now, first (1 .. 500): how often; the ROW: how many BURST in these.");
        TurningPosts x = new TurningPosts();
        Checks.due("once, first", x, x.recurs(1), 1, "1");
        for (int crowd = 0; crowd < 4; crowd++) {
            x = Checks.on("0000;0");
            if (crowd > 0) x.comes(1, crowd);
            Checks.due("four, first", x, x.recurs(1), 4, "1");
            Checks.due("to the other", x, x.recurs(2), 1, "1");
        }
        // 1 1; 2 1: 0 2: 1 0 (2); 2 0: 0 1 (1); 1 1.
        x = two(1, 1);
        Checks.due("three", x, x.recurs(1), 3, "3");
        x = of500();
        Checks.due("500", x.recurs(4), 500);
    }

    private static TurningPosts of500() {
        TurningPosts x = Checks.on("0076;345;044;5263;61;30;15");
        String crowds = "3223111";
        for (int v = 1; v <= 7; v++) x.comes(v, crowds.charAt(v - 1) - '0');
        x.crowds(30, 30);
        return x;
    }

    private static TurningPosts of501() {
        TurningPosts x = Checks.on("2404;671;510;2325;461;532;56");
        for (int v = 1; v <= 7; v++) x.comes(v, (int) x.post(v, 0) - 1);
        return x;
    }

    private static void recursNever() {
        Checks.of(37, "-2: not in 500, or some can BURST now");
        Checks.refused("501", CrowdsEdgesTest::of501, y -> y.recurs(2), -2);
        TurningPosts x = of501();
        String crowds = Checks.crowds(x);
        // To calm them less often is all one for what they are in the end.
        for (int come : new int[] {90, 90, 90, 90, 90, 51}) {
            x.comes(2, come);
            x.calms();
        }
        Checks.due("with the 501st they are as they were", Checks.crowds(x), crowds);
        Checks.refused("never: 0 0 does not come back", () -> two(0, 0), y -> y.recurs(1), -2);
        Checks.refused("two at 1", () -> two(2, 0), y -> y.recurs(2), -2);
        Checks.refused("two at 2", () -> two(0, 2), y -> y.recurs(1), -2);
        Checks.due("one each", two(1, 1).recurs(2), 3);
        Checks.refused("some can BURST, more than 9999 times with one more", CrowdsEdgesTest::full, y -> y.recurs(1), -2);
    }

    private static TurningPosts full() {
        TurningPosts x = longOne();
        for (int v = 1; v <= 7; v++) x.comes(v, 99);
        return x;
    }

    private static void recursRefused() {
        Checks.of(37, "-3: at some time they would BURST more than 9999 times till they are calm");
        // Out of reach, as far as was searched: the most BURSTS by one more are these.
        TurningPosts x = Checks.on(LONG);
        for (int v = 1; v <= 7; v++) x.comes(v, 3);
        x.comes(6, 1);
        Checks.due("the most", x.calms(), 9555);
        x.undo();
        x.undo();
        // There are four TREES, so that the fourth brings them back.
        Checks.due("four times", x.recurs(6), 4);
        Checks.of(37, "NONE: none such, THE INN.");
        for (int v : NO_POST) {
            Checks.refused("recurs(" + v + ")", () -> two(1, 1), y -> y.recurs(v), -1);
            Checks.refused("recurs(" + v + "), some can BURST", () -> two(2, 1), y -> y.recurs(v), -1);
        }
    }

    private static void trigger() {
        Checks.of(38, "The CROSSING to which one more is to come so that, calmed, the most CROWDS BURST (each as often as it does): of equal ones the first; the ROW: how often.");
        TurningPosts x = new TurningPosts();
        Checks.due("of one", x, x.trigger(), 1, "1");
        x = two(0, 0);
        Checks.due("none BURSTS: the first", x, x.trigger(), 1, "0");
        x = two(1, 1);
        Checks.due("of equal ones the first", x, x.trigger(), 1, "2");
        x = two(0, 1);
        Checks.due("the second", x, x.trigger(), 2, "1");
        x = Checks.on("00;00;00;00;00;00;0");
        Checks.due("the last", x, x.trigger(), 7, "1");
        x = Checks.on("2;3;4;5;6;7;0");
        Checks.due("the first of a line", x, x.trigger(), 1, "7");
        x = Checks.on(LONG);
        for (int v = 1; v <= 7; v++) x.comes(v, 3);
        Checks.due("each as often as it does", x, x.trigger(), 6, "9555");
    }

    private static void triggerRefused() {
        Checks.of(38, "-2: some can BURST now");
        Checks.refused("two at 1", () -> two(2, 0), TurningPosts::trigger, -2);
        Checks.refused("two at 2", () -> two(0, 2), TurningPosts::trigger, -2);
        Checks.due("one each", two(1, 1).trigger(), 1);
        TurningPosts x = new TurningPosts();
        x.comes(1, 1);
        Checks.due("one at one WAY", x.trigger(), -2);
        Checks.refused("some can BURST, more than 9999 times with one more", CrowdsEdgesTest::full, TurningPosts::trigger, -2);
        Checks.of(38, "-3: from one they would more than 9999 times.");
        // Out of reach, as far as was searched: 9555 are answered.
        x = Checks.on("5755;6555;5554;5525;1111;5505;5355");
        for (int v = 1; v <= 7; v++) x.comes(v, 3);
        Checks.due("the most", x, x.trigger(), 1, "9555");
    }
}
