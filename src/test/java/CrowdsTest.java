/** Promises 33 to 38: CROWDS that can BURST, that come back, the one that changes nothing. */
public final class CrowdsTest {
    private static final String LONG = "0777;1777;2777;3777;4777;5777;6666";

    public static void main(String[] args) {
        ready();
        unit();
        returns();
        joins();
        recurs();
        recursFar();
        trigger();
        questionsChangeNothing();
        Checks.end("CrowdsTest");
    }

    private static TurningPosts two(int first, int second) {
        TurningPosts x = Checks.on("02;01");
        x.sheet(2, 2, first, second - first);
        return x;
    }

    private static void ready() {
        TurningPosts x = Checks.on("002;13;0");
        Checks.due("none", x, x.ready(), 0, "0 0");
        x.comes(1, 2);
        x.comes(2, 2);
        Checks.due("2", x, x.ready(), 4, "1 4");
        x.comes(1, 1);
        x.comes(3, 7);
        Checks.due("all", x, x.ready(), 14, "3 12");
    }

    private static void unit() {
        TurningPosts x = Checks.on("02;13;20");
        x.comes(1, 9);
        Checks.due("of three", x, x.unit(), 2, "1 0 1");
        x = two(0, 0);
        Checks.due("of two", x, x.unit(), 2, "1 1");
        x = new TurningPosts();
        Checks.due("of one WAY", x, x.unit(), 0, "0");
        x = Checks.on("00");
        Checks.due("of two WAYS to THE INN", x, x.unit(), 0, "0");
        x = Checks.on("0577;17;2777;377;47;5777;66");
        Checks.due("9999 BURSTS of M twice", x.unit(), 13);
        x = Checks.on("06;157;277;3777;477;5777;66");
        Checks.due("10000 BURSTS of M twice", x.unit(), -3);
        x = Checks.on("0000;0001;2002");
        Checks.due("M twice calmed is not yet it", x.unit(), unitByHand(x));
        x = Checks.on(LONG);
        x.ready();
        Checks.due("too long", x.unit(), -3);
        Checks.due("the ROW stays", Checks.row(x), "0 0");
    }

    /** As the document tells it, by acts: M twice less what that is when calmed, and that calmed. */
    private static int unitByHand(TurningPosts like) {
        TurningPosts y = Checks.on("0000;0001;2002");
        int[] twice = new int[4];
        for (int v = 1; v <= 3; v++) {
            twice[v] = 2 * (like.post(v, 0) - 1);
            y.comes(v, twice[v]);
        }
        y.calms();
        int[] calm = new int[4];
        for (int v = 1; v <= 3; v++) calm[v] = y.post(v, 3);
        y.sheet(3, 0, 0, 0);
        for (int v = 1; v <= 3; v++) y.comes(v, twice[v] - calm[v]);
        y.calms();
        Checks.due("the ROW of THE UNIT", Checks.row(like), Checks.crowds(y));
        return y.count(4);
    }

    private static void returns() {
        int[][] crowds = {{1, 1}, {0, 0}, {0, 1}, {1, 0}};
        int[] answers = {1, 0, 1, 1};
        String[] rows = {"1 1", "1 1", "0 1", "1 0"};
        for (int i = 0; i < crowds.length; i++) {
            TurningPosts x = two(crowds[i][0], crowds[i][1]);
            Checks.due("returns of " + crowds[i][0] + " " + crowds[i][1], x, x.returns(), answers[i], rows[i]);
        }
        TurningPosts x = two(2, 0);
        x.ready();
        Checks.due("some can BURST", x.returns(), -2);
        Checks.due("the ROW stays", Checks.row(x), "1 2");
        x = new TurningPosts();
        Checks.due("of one WAY", x, x.returns(), 1, "0");
        x = Checks.on(LONG);
        x.ready();
        Checks.due("too long", x.returns(), -3);
        Checks.due("the ROW stays, too", Checks.row(x), "0 0");
        x.comes(1, 4);
        Checks.due("some can BURST comes first", x.returns(), -2);
    }

    private static void joins() {
        TurningPosts x = two(1, 1);
        x.ready();
        for (int i = 0; i <= 2; i++) Checks.due("nothing kept", x.joins(i), -2);
        for (int i : new int[] {-1, 3, Integer.MAX_VALUE, Integer.MIN_VALUE}) Checks.due("joins(" + i + ")", x.joins(i), -1);
        Checks.due("the ROW stays", Checks.row(x), "0 2");
        x.keep(2);
        Checks.due("added", x, x.joins(2), 2, "1 1");
        x.sheet(2, 2, 0, 1);
        Checks.due("to what is now", x, x.joins(2), 2, "0 1");
        Checks.due("others are not kept", x.joins(0), -2);
        x.sheet(2, 2, 3, 0);
        x.keep(0);
        x.sheet(3, 0, 0, 0);
        // 3 3: both BURST: 2 2, and again: 1 1.
        Checks.due("what was kept is not calm", x, x.joins(0), 4, "1 1");
        x = Checks.on("0;0777;2777;3777;4777;5777;6666");
        x.comes(7, 30);
        x.keep(1);
        x.undo();
        Checks.due("30 of 7", x.joins(1) > 9000, true);
        x.comes(7, 30);
        String row = Checks.row(x);
        Checks.due("60 of 7", x.joins(1), -3);
        Checks.due("the ROW stays, too", Checks.row(x), row);
    }

    private static void recurs() {
        TurningPosts x = two(1, 1);
        Checks.due("three at 1", x, x.recurs(1), 3, "3");
        Checks.due("three at 2", x, x.recurs(2), 3, "3");
        x = two(0, 0);
        x.ready();
        Checks.due("never", x.recurs(1), -2);
        x.comes(1, 2);
        Checks.due("some can BURST", x.recurs(1), -2);
        Checks.due("the ROW stays", Checks.row(x), "0 0");
        for (int v : new int[] {0, -1, 3, 8, Integer.MAX_VALUE, Integer.MIN_VALUE}) Checks.due("recurs(" + v + ")", x.recurs(v), -1);
        x = new TurningPosts();
        Checks.due("at once", x, x.recurs(1), 1, "1");
        x = Checks.on("0000");
        x.comes(1, 2);
        Checks.due("four", x, x.recurs(1), 4, "1");
    }

    private static void recursFar() {
        TurningPosts x = Checks.on("0076;345;044;5263;61;30;15");
        String crowds = "3223111";
        for (int v = 1; v <= 7; v++) x.comes(v, crowds.charAt(v - 1) - '0');
        Checks.due("500", x.recurs(4), 500);
        x = Checks.on("2404;671;510;2325;461;532;56");
        for (int v = 1; v <= 7; v++) x.comes(v, (int) Checks.post(x, v, 0) - 1);
        Checks.due("501", x.recurs(2), -2);
    }

    private static void trigger() {
        TurningPosts x = two(1, 1);
        Checks.due("of equal ones the first", x, x.trigger(), 1, "2");
        x = two(0, 1);
        Checks.due("2", x, x.trigger(), 2, "1");
        x = two(0, 0);
        Checks.due("none BURSTS", x, x.trigger(), 1, "0");
        x = two(2, 0);
        x.ready();
        Checks.due("some can BURST", x.trigger(), -2);
        Checks.due("the ROW stays", Checks.row(x), "1 2");
        x = Checks.on(LONG);
        for (int v = 1; v <= 7; v++) x.comes(v, 3);
        Checks.due("each as often as it does", x, x.trigger(), 6, "9555");
    }

    private static void questionsChangeNothing() {
        TurningPosts x = two(1, 1);
        x.keep(0);
        x.ready();
        x.unit();
        x.returns();
        x.joins(0);
        x.recurs(1);
        x.trigger();
        Checks.due("CROWDS", Checks.crowds(x), "1 1");
        Checks.due("HOUSED, STEPS, to undo", x.count(2) + " " + x.count(3) + " " + x.count(8), "0 0 0");
    }
}
