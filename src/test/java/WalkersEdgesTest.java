import java.util.List;
import java.util.function.ToLongFunction;

/** Edges that promises 9 to 16 name: who comes, goes, walks; CROWDS that BURST; POSTS that are set; days; what can be undone. */
public final class WalkersEdgesTest {
    private static final int LEAST = Integer.MIN_VALUE;
    private static final int MOST = Integer.MAX_VALUE;
    /** Of a net of three LINES: THE INN, and none such. */
    private static final int[] NO_POST = {0, -1, 4, 7, 8, MOST, LEAST};

    public static void main(String[] args) {
        comes();
        comesTooMany();
        goes();
        walks();
        walksStepByStep();
        walksTooFar();
        bursts();
        calms();
        calmsTooOften();
        points();
        dayOfActs();
        dayTillRefused();
        daySigns();
        dayOf60();
        undo();
        undoOf15();
        undoOfEach();
        undoRefused();
        undoForgotten();
        Checks.end("WalkersEdgesTest");
    }

    private static TurningPosts three() {
        return Checks.on("02;13;20");
    }

    private static void comes() {
        Checks.of(9, "n (1 .. 99) come to a CROSSING (not 0): CROWD.");
        TurningPosts x = three();
        Checks.due("one", x.comes(1, 1), 1);
        Checks.due("99", x.comes(2, 99), 99);
        Checks.due("to the last CROSSING", x.comes(3, 98), 98);
        Checks.due("CROWDS", Checks.crowds(x), "1 99 98");
        Checks.due("each can be undone", x.count(8), 3);
        Checks.due("no ROW", x.count(9), 0);
        Checks.due("7 of seven", Checks.on("0;0;0;0;0;0;0").comes(7, 1), 1);
        Checks.of(9, "NONE: others.");
        for (int v : NO_POST) Checks.refused("comes(" + v + ", 1)", Checks::busy, y -> y.comes(v, 1), -1);
        for (int n : new int[] {0, -1, 100, LEAST, MOST}) Checks.refused("comes(1, " + n + ")", Checks::busy, y -> y.comes(1, n), -1);
    }

    private static void comesTooMany() {
        Checks.of(9, "-2: it would be above 99");
        TurningPosts x = three();
        x.comes(1, 98);
        Checks.due("100", x.comes(1, 2), -2);
        Checks.due("98 stay", Checks.crowds(x), "98 0 0");
        Checks.due("99", x.comes(1, 1), 99);
        Checks.due("one more", x.comes(1, 1), -2);
        Checks.due("99 more", x.comes(1, 99), -2);
        Checks.due("elsewhere there is room", x.comes(2, 99), 99);
        x = Checks.on("2;0");
        x.comes(2, 99);
        x.comes(1, 2);
        x.goes(1);
        Checks.due("on 100", x.comes(2, 1), -2);
        x.bursts(1);
        Checks.due("on 101", x.comes(2, 1), -2);
        Checks.due("101 stay", Checks.crowds(x), "0 101");
        x.goes(2);
        x.goes(2);
        Checks.due("on 99", x.comes(2, 1), -2);
        x.goes(2);
        Checks.due("on 98", x.comes(2, 1), 99);
        Checks.refused("comes(1, 99) on 4", Checks::busy, y -> y.comes(1, 99), -2);
        Checks.refused("comes(1, 96) on 4", Checks::busy, y -> y.comes(1, 96), -2);
        Checks.due("comes(1, 95) on 4", Checks.busy().comes(1, 95), 99);
    }

    private static void goes() {
        Checks.of(10, "One of a CROWD goes a STEP: the CROSSING to which he comes; the ROW: number of the POST then, CROWD then (where he was).");
        TurningPosts x = Checks.on("0234;1;1;1");
        x.comes(1, 5);
        int[] to = {0, 2, 3, 4, 0};
        for (int i = 0; i < 5; i++) Checks.due("the one who goes as number " + i, x, x.goes(1), to[i], (i + 1) % 4 + " " + (4 - i));
        Checks.due("all have gone", Checks.crowds(x) + " " + x.count(2) + " " + x.count(3), "0 1 1 1 2 5");
        Checks.of(10, "-2: there is none");
        Checks.due("none is left", x.goes(1), -2);
        Checks.due("the last of one", x.goes(2), 1);
        Checks.due("none is left of one", x.goes(2), -2);
        Checks.refused("of an empty CROWD", WalkersEdgesTest::busyWithout3, y -> y.goes(3), -2);
        Checks.of(10, "NONE: none such, THE INN.");
        for (int v : NO_POST) Checks.refused("goes(" + v + ")", Checks::busy, y -> y.goes(v), -1);
    }

    /** As busy(), but no one is at 3. */
    private static TurningPosts busyWithout3() {
        TurningPosts x = Checks.busy();
        x.sheet(2, 2, 4, -2);
        return x;
    }

    private static void walks() {
        Checks.of(11, "One of a CROWD walks till he is at THE INN: in how many STEPS; the ROW: through which CROSSINGS he came (bits; the first and THE INN, too).");
        TurningPosts x = Checks.on("2;3;4;5;6;7;0");
        x.comes(7, 1);
        x.comes(1, 1);
        Checks.due("one STEP", x, x.walks(7), 1, "129");
        Checks.due("seven", x, x.walks(1), 7, "255");
        Checks.due("both are there", x.count(2) + " " + x.count(3) + " " + x.count(4), "2 8 0");
        x = three();
        x.comes(2, 9);
        Checks.due("2 1 0", x, x.walks(2), 2, "7");
        Checks.due("2 3 2 1 2 3 0", x, x.walks(2), 6, "15");
        Checks.due("seven stay", Checks.crowds(x), "0 7 0");
        Checks.of(11, "-2: there is none");
        Checks.due("none at 1", x.walks(1), -2);
        x.comes(1, 1);
        Checks.due("the last one at 1", x.walks(1), 1);
        Checks.due("none is left", x.walks(1), -2);
        Checks.refused("of an empty CROWD", WalkersEdgesTest::busyWithout3, y -> y.walks(3), -2);
        Checks.of(11, "NONE: none such, THE INN.");
        for (int v : NO_POST) Checks.refused("walks(" + v + ")", Checks::busy, y -> y.walks(v), -1);
    }

    /** As by a STEP of one where he is, and so on: by RULES that tell of CROWDS, too. */
    private static void walksStepByStep() {
        Checks.of(11, "One of a CROWD walks till he is at THE INN: in how many STEPS");
        for (String rule : new String[] {"", "c", "c+1", "c*2+k", "5-c", "c=i", "h+c", "n*c+1", "w+d"}) {
            for (int from = 1; from <= 3; from++) {
                for (int crowd = 1; crowd <= 4; crowd++) {
                    TurningPosts x = Checks.on("0023;1300;120");
                    TurningPosts y = Checks.on("0023;1300;120");
                    for (TurningPosts each : new TurningPosts[] {x, y}) {
                        Checks.rule(each, rule);
                        each.sheet(2, 3, crowd, 1);
                    }
                    int steps = x.walks(from);
                    int at = from;
                    for (int gone = 0; gone < steps; gone++) at = at == 0 ? -1 : y.goes(at);
                    Checks.due("by rule " + rule + " from " + from, steps > 0 ? at : 0, 0);
                    Checks.due("all is as by STEPS, by rule " + rule + " from " + from, state(x), state(y));
                }
            }
        }
        TurningPosts x = Checks.on("0000");
        Checks.rule(x, "c");
        x.comes(1, 3);
        x.walks(1);
        Checks.due("two are left, and turn it", x.post(1, 1), 2);
    }

    /** From 3 it is 999 STEPS, and from 7 one more; one walker is at each of them. */
    private static TurningPosts far() {
        TurningPosts x = WalkersTest.far();
        x.comes(3, 1);
        x.comes(7, 1);
        x.fits();
        return x;
    }

    private static void walksTooFar() {
        Checks.of(11, "-3: he is not there in 999 STEPS (nothing changes)");
        TurningPosts x = far();
        Checks.due("999", x.walks(3), 999);
        Checks.due("all are counted", x.count(3) + " " + x.count(2), "999 1");
        Checks.refused("1000", WalkersEdgesTest::far, y -> y.walks(7), -3);
        Checks.refused("a ring", () -> ring(1, 1), y -> y.walks(1), -3);
    }

    /** 1 2 1 2 .. without end, by a RULE of 0. */
    private static TurningPosts ring(int first, int second) {
        TurningPosts x = Checks.on("20;1");
        Checks.rule(x, "0");
        x.sheet(2, 2, first, second - first);
        return x;
    }

    private static void bursts() {
        Checks.of(12, "A CROWD BURSTS once: CROWD then.");
        TurningPosts x = Checks.on("0023;1;1");
        x.comes(1, 9);
        Checks.due("once", x.bursts(1), 5);
        Checks.due("once more", x.bursts(1), 1);
        Checks.due("CROWDS, HOUSED", Checks.crowds(x) + " " + x.count(2), "1 2 2 4");
        Checks.due("no ROW", x.count(9), 0);
        x.comes(1, 3);
        Checks.due("to none", x.bursts(1), 0);
        Checks.of(12, "-2: it is too small");
        Checks.due("of none", x.bursts(1), -2);
        for (int ways = 1; ways <= 4; ways++) {
            TurningPosts y = Checks.on("0000".substring(0, ways));
            if (ways > 1) y.comes(1, ways - 1);
            Checks.due(ways - 1 + " by " + ways + " WAYS", y.bursts(1), -2);
            y.comes(1, 1);
            Checks.due(ways + " by " + ways + " WAYS", y.bursts(1), 0);
        }
        Checks.refused("one by two WAYS", () -> busyWith(1), y -> y.bursts(2), -2);
        Checks.refused("none by two WAYS", () -> busyWith(0), y -> y.bursts(2), -2);
        Checks.of(12, "NONE: none such, THE INN.");
        for (int v : NO_POST) Checks.refused("bursts(" + v + ")", Checks::busy, y -> y.bursts(v), -1);
    }

    /** As busy(), but for CROWDS of so many. */
    private static TurningPosts busyWith(int many) {
        TurningPosts x = Checks.busy();
        x.sheet(2, 3, many, 0);
        return x;
    }

    private static void calms() {
        Checks.of(13, "CROWDS BURST till none can any more: how often; the ROW: how often that of CROSSINGS 1, 2, .. does.");
        TurningPosts x = three();
        Checks.due("none there", x, x.calms(), 0, "0 0 0");
        x.sheet(2, 3, 1, 0);
        Checks.due("none can", x, x.calms(), 0, "0 0 0");
        Checks.due("they stay", Checks.crowds(x), "1 1 1");
        x.comes(2, 1);
        // 1 2 1; 2 0 2; 0 2 0, two housed; 1 0 1.
        Checks.due("one more", x, x.calms(), 4, "1 2 1");
        Checks.due("CROWDS, HOUSED", Checks.crowds(x) + " " + x.count(2), "1 0 1 2");
        Checks.due("none can any more", x.ready(), 0);
        Checks.due("POSTS, STEPS", Checks.posts(x) + " " + x.count(3), "0 0 0 0");
        Checks.of(13, "(The order is all one.)");
        int[][] orders = {{1, 2, 3}, {3, 2, 1}, {2, 1, 3}, {2, 3, 1}};
        TurningPosts y = crowded();
        Checks.due("calms", y.calms(), burstBy(crowded(), orders[0]));
        for (int[] order : orders) {
            TurningPosts z = crowded();
            burstBy(z, order);
            Checks.due("CROWDS and HOUSED, one by one", Checks.crowds(z) + " " + z.count(2), Checks.crowds(y) + " " + y.count(2));
        }
    }

    private static TurningPosts crowded() {
        TurningPosts x = three();
        x.sheet(2, 3, 9, -2);
        return x;
    }

    /** One BURST behind the other, of the first in this order that can. */
    private static int burstBy(TurningPosts x, int[] order) {
        int times = 0;
        for (int i = 0; i < order.length && times < 200; i++) {
            if (x.bursts(order[i]) < 0) continue;
            times++;
            i = -1;
        }
        return times;
    }

    /** CROWDS that BURST 9999 times, and once more for each one who comes to 1. */
    private static TurningPosts much(int more) {
        TurningPosts x = Checks.on("0;0777;2777;3777;4777;5777;6666");
        x.comes(1, 5 + more);
        x.comes(2, 1);
        x.comes(6, 3);
        x.comes(7, 30);
        x.fits();
        return x;
    }

    private static void calmsTooOften() {
        Checks.of(13, "-3: they would more than 9999 times (nothing changes).");
        TurningPosts x = much(0);
        int sum = 0;
        Checks.due("9999", x.calms(), 9999);
        for (int i = 0; i < 7; i++) sum += (int) x.row(i);
        Checks.due("the ROW together", sum, 9999);
        Checks.refused("10000", () -> much(1), TurningPosts::calms, -3);
        Checks.refused("10094", () -> much(94), TurningPosts::calms, -3);
        Checks.refused("far more", () -> longOne(), TurningPosts::calms, -3);
    }

    private static TurningPosts longOne() {
        TurningPosts x = Checks.on("0777;1777;2777;3777;4777;5777;6666");
        for (int v = 1; v <= 7; v++) x.comes(v, 99);
        x.fits();
        return x;
    }

    private static void points() {
        Checks.of(14, "A POST is set to number k of a WAY: 10 and what it was.");
        TurningPosts x = Checks.on("2340;0;0;00");
        int[] set = {3, 0, 2, 1};
        int[] answers = {10, 13, 10, 12};
        for (int i = 0; i < 4; i++) Checks.due("to " + set[i], x.points(1, set[i]), answers[i]);
        Checks.due("the last CROSSING", x.points(4, 1), 10);
        Checks.due("POSTS", Checks.posts(x), "1 0 0 1");
        Checks.of(14, "-2: it is so");
        Checks.due("again", x.points(1, 1), -2);
        Checks.due("as at first", x.points(2, 0), -2);
        Checks.refused("to 1", Checks::busy, y -> y.points(3, 1), -2);
        Checks.of(14, "NONE: none such, THE INN.");
        for (int v : NO_POST) Checks.refused("points(" + v + ", 0)", Checks::busy, y -> y.points(v, 0), -1);
        for (int k : new int[] {-1, 2, 3, 4, MOST, LEAST}) Checks.refused("points(3, " + k + ")", Checks::busy, y -> y.points(3, k), -1);
        Checks.due("of four WAYS to 4", x.points(1, 4), -1);
        Checks.due("of one WAY to 1", x.points(2, 1), -1);
    }

    private static void dayOfActs() {
        Checks.of(15, "THE TEXT tells A DAY (an empty one: nothing)");
        TurningPosts x = three();
        Checks.due("nothing", x, Checks.day(x, ""), 0, "0 0");
        Checks.due("nothing to undo", x.count(8), 0);
        Checks.due("all is as at first", Checks.crowds(x) + " " + Checks.posts(x), "0 0 0 0 0 0");
        Checks.of(15, "signs one behind another: c, a digit and a digit 1 .. 9 (comes()), g and a digit (goes()), w and a digit (walks()), b and a digit (bursts()), a (calms()), p, a digit and a digit 0 .. 3 (points())");
        String[] days = {"c11", "c19", "c31c29", "c23g2", "c23w2", "c29b2", "c29a", "a", "p11", "p11p10", "c23g2g2w2p20c39b3a"};
        for (String day : days) {
            TurningPosts one = three();
            TurningPosts other = three();
            int acts = byCalls(other, day);
            Checks.due("day " + day, one, Checks.day(one, day), acts, "0 " + one.count(2));
            Checks.due("state behind day " + day, state(one), state(other));
            Checks.due("THE TEXT behind day " + day, one.count(10), 0);
        }
    }

    private static String state(TurningPosts x) {
        return Checks.crowds(x) + "; " + Checks.posts(x) + "; " + x.count(2) + " " + x.count(3);
    }

    /** The acts of a day by a call each: how many. */
    private static int byCalls(TurningPosts x, String day) {
        int acts = 0;
        for (int p = 0; p < day.length(); p++) {
            char kind = day.charAt(p);
            int v = p + 1 < day.length() ? day.charAt(p + 1) - '0' : 0;
            int n = p + 2 < day.length() ? day.charAt(p + 2) - '0' : 0;
            switch (kind) {
                case 'c': x.comes(v, n); break;
                case 'g': x.goes(v); break;
                case 'w': x.walks(v); break;
                case 'b': x.bursts(v); break;
                case 'a': x.calms(); break;
                case 'p': x.points(v, n); break;
                default: acts--;
            }
            acts++;
        }
        return acts;
    }

    private static void dayTillRefused() {
        Checks.of(15, "they are done one by one, till one is refused (it answers below 0): how many were done; the ROW: 1 if one was refused, else 0; HOUSED then.");
        // In a net of 20;1 by a RULE of 0: an act that is refused ends it, whatever stands behind it.
        String[] refused = {"c01", "c31", "c91", "g2", "g0", "g3", "w2", "w0", "w9", "w1", "b2", "b0", "b8", "p00", "p30", "p10", "p12", "p13", "p21"};
        for (String act : refused) {
            TurningPosts x = ring(1, 0);
            Checks.due("day " + act + "c21", x, Checks.day(x, act + "c21"), 0, "1 0");
            Checks.due("no one came behind " + act, Checks.crowds(x) + " " + x.count(8), "1 0 0");
            Checks.due("day c12" + act + "c21", x, Checks.day(x, "c12" + act + "c21"), 1, "1 0");
            Checks.due("one act was done ahead of " + act, Checks.crowds(x) + " " + x.count(8), "3 0 1");
        }
        TurningPosts x = new TurningPosts();
        Checks.due("HOUSED", x, Checks.day(x, "c13w1w1g1"), 4, "0 3");
        Checks.due("HOUSED till one was refused", x, Checks.day(x, "c12b1b1b1a"), 3, "1 5");
        Checks.due("till CROWD is 99", x, Checks.day(x, "c19".repeat(12)), 11, "1 5");
        Checks.due("99", Checks.crowds(x), "99");
        x = much(1);
        Checks.due("calms of 10000 BURSTS", x, Checks.day(x, "c11ac11"), 1, "1 0");
        x = far();
        Checks.due("999 STEPS, then 1000", Checks.day(x, "w3"), 1);
        x = far();
        Checks.due("1000 STEPS", x, Checks.day(x, "w7"), 0, "1 0");
    }

    private static void dayFails(String day, int want) {
        TurningPosts x = Checks.busy();
        Checks.due("day " + day, Checks.day(x, day), want);
        Checks.due("THE TEXT", x.count(10), 0);
        if (want < 0) Checks.refused("day " + day, Checks::busy, day, TurningPosts::day, want);
    }

    private static void daySigns() {
        Checks.of(15, "-1 - p: the sign at p can't stand there");
        String[] days = {"x", "C", " ", "0", "1", ";", "d", "\u00e1", "\u0000", "c/", "c:", "cc", "c1", "c10", "c1:", "c1/", "c1c", "gx", "g/", "g:", "wa", "w-", "bb", "b ", "aax", "a1", "p:", "pp", "p1/", "p14", "p19", "p1p",
            "c11x", "c112", "g11", "w11", "b11", "p111", "c11c1", "a\u0000"};
        int[] fails = {0, 0, 0, 0, 0, 0, 0, 0, 0, 1, 1, 1, 2, 2, 2, 2, 2, 1, 1, 1, 1, 1, 1, 1, 2, 1, 1, 1, 2, 2, 2, 2,
            3, 3, 2, 2, 2, 3, 5, 1};
        for (int i = 0; i < days.length; i++) dayFails(days[i], -1 - fails[i]);
        Checks.due("c and a digit 1", Checks.day(three(), "c11"), 1);
        Checks.due("c and a digit 9", Checks.day(three(), "c19"), 1);
        Checks.due("p and a digit 3", Checks.day(Checks.on("0000"), "p13"), 1);
        Checks.due("p and a digit 0", Checks.day(Checks.on("0000"), "p13p10"), 2);
        Checks.of(15, "nothing is done then.");
        TurningPosts x = Checks.on("20;1");
        x.ready();
        Checks.due("a sign behind acts", Checks.day(x, "c11p11x"), -7);
        Checks.due("an end behind acts", Checks.day(x, "c11p11c1"), -9);
        Checks.due("nothing is done", state(x) + " " + x.count(8) + " " + Checks.row(x), "0 0; 0 0; 0 0 0 0 0");
    }

    private static void dayOf60() {
        Checks.of(15, "(its end, if it ends too early; 60, if it has more and the first 60 could go on or end)");
        String[] early = {"c", "c1", "g", "w", "b", "p", "p1", "ac", "c11g", "aap0"};
        for (String day : early) dayFails(day, -1 - day.length());
        String all = "a".repeat(80);
        dayFails(all.substring(0, 59), 59);
        dayFails(all.substring(0, 60), 60);
        for (int signs : new int[] {61, 62, 80}) dayFails(all.substring(0, signs), -61);
        dayFails(all.substring(0, 58) + "p1", -61);
        dayFails(all.substring(0, 59) + "g", -61);
        dayFails(all.substring(0, 58) + "p10", -61);
        dayFails(all.substring(0, 59) + "g1", -61);
        dayFails(all.substring(0, 59) + "gx", -61);
        for (int good = 60; good < 80; good++) dayFails(all.substring(0, good) + "x", -61);
        for (int good = 60; good < 79; good++) dayFails(all.substring(0, good) + "g", -61);
        dayFails(all.substring(0, 59) + "xa", -60);
        dayFails(all.substring(0, 59) + "x", -60);
        dayFails(all.substring(0, 58) + "gxa", -60);
        dayFails("x" + all.substring(0, 70), -1);
        Checks.due("57 and three", Checks.day(three(), all.substring(0, 57) + "c11"), 58);
    }

    private static void undo() {
        Checks.of(16, "The latest comes(), goes(), walks(), bursts(), calms(), points() or day()");
        TurningPosts x = three();
        List<ToLongFunction<TurningPosts>> acts = List.of(y -> y.comes(2, 9), y -> y.goes(2), y -> y.walks(2), y -> y.bursts(2), y -> y.points(2, 1 - (int) y.post(2, 1)), y -> y.calms(), y -> Checks.day(y, "c11c21"));
        String[] ahead = new String[acts.size()];
        for (int i = 0; i < acts.size(); i++) {
            ahead[i] = state(x);
            Checks.due("act " + i + " is done", acts.get(i).applyAsLong(x) >= 0, true);
            Checks.due("acts to undo", x.count(8), i + 1);
        }
        Checks.of(16, "is undone (POSTS, CROWDS, HOUSED, STEPS are as ahead of it): how many are left that can be.");
        for (int i = acts.size() - 1; i >= 0; i--) {
            Checks.due("undo act " + i, x.undo(), i);
            Checks.due("as ahead of act " + i, state(x), ahead[i]);
            Checks.due("left", x.count(8), i);
        }
        Checks.due("none", x.undo(), -1);
        TurningPosts seven = Checks.busyOfSeven();
        String then = state(seven);
        for (int v = 1; v <= 7; v++) {
            seven.points(v, (seven.post(v, 1) + 1) % 4);
            seven.comes(v, 9);
        }
        for (int i = 0; i < 14; i++) seven.undo();
        Checks.due("all seven", state(seven), then);
        Checks.due("a day of all seven", Checks.day(seven, "c79g7c19p70p71w7a") > 4, true);
        seven.undo();
        Checks.due("all seven behind a day", state(seven), then);
        TurningPosts y = Checks.busy();
        TurningPosts z = Checks.busy();
        y.comes(2, 3);
        y.undo();
        Checks.due("all else stays as it is", Whole.of(y), Whole.of(z));
    }

    private static void undoOf15() {
        Checks.of(16, "(of 15 that are kept, the latest ones; such as were done, calms() of no BURST, too; day() of which one act was done, as one)");
        TurningPosts x = new TurningPosts();
        for (int i = 1; i <= 14; i++) x.comes(1, 1);
        Checks.due("14", x.count(8), 14);
        x.comes(1, 1);
        Checks.due("15", x.count(8), 15);
        x.comes(1, 1);
        Checks.due("15 of 16", x.count(8), 15);
        for (int left = 14; left >= 0; left--) {
            Checks.due("undo", x.undo(), left);
            Checks.due("CROWD", Checks.crowds(x), "" + (left + 1));
        }
        Checks.due("the first one can't be", x.undo(), -1);
        Checks.due("it stays", Checks.crowds(x), "1");
        // Round about: some undone, some done, more than once round the 15.
        for (int round = 0; round < 5; round++) {
            for (int i = 0; i < 9; i++) x.comes(1, 1);
            for (int i = 0; i < 4; i++) x.undo();
        }
        Checks.due("1 and five times 5", Checks.crowds(x), "26");
        Checks.due("15 less the 4 undone", x.count(8), 11);
        for (int left = 10; left >= 0; left--) Checks.due("undo round about", x.undo(), left);
        Checks.due("11 less", Checks.crowds(x), "15");
        Checks.due("no more", x.undo(), -1);
    }

    private static void undoOfEach() {
        TurningPosts x = ring(1, 0);
        Checks.due("calms of no BURST", x.calms(), 0);
        Checks.due("it can be undone", x.count(8), 1);
        Checks.due("it is", x.undo(), 0);
        long[] refused = {x.comes(1, 99), x.comes(0, 1), x.goes(2), x.goes(0), x.walks(1), x.walks(2), x.bursts(2), x.bursts(0), x.points(1, 0), x.points(1, 2)};
        for (long answer : refused) Checks.due("a refused one", answer < 0, true);
        Checks.due("such are not kept", x.count(8), 0);
        Checks.due("a day of none", Checks.day(x, "w1"), 0);
        Checks.due("nor an empty one", Checks.day(x, ""), 0);
        Checks.due("nor one that can't be read", Checks.day(x, "a1"), -2);
        Checks.due("such are not kept, too", x.count(8), 0);
        Checks.due("a day of one, and one refused", Checks.day(x, "c11w1"), 1);
        Checks.due("it is kept", x.count(8), 1);
        Checks.due("a day of one", Checks.day(x, "a"), 1);
        Checks.due("a day of four", Checks.day(x, "c11c21p11g1"), 4);
        Checks.due("each as one", x.count(8), 3);
        x.undo();
        Checks.due("all four are undone", state(x), "1 0; 0 0; 1 0");
        x.undo();
        x.undo();
        Checks.due("as at first", state(x), "1 0; 0 0; 0 0");
        x = much(1);
        Checks.due("calms of 10000 BURSTS", x.calms(), -3);
        Checks.due("it is not kept", x.count(8), 4);
    }

    private static void undoRefused() {
        Checks.of(16, "Refused: none.");
        Checks.refused("of a new one", TurningPosts::new, TurningPosts::undo, -1);
        TurningPosts x = new TurningPosts();
        x.comes(1, 1);
        Checks.due("of one", x.undo(), 0);
        Checks.due("of none", x.undo(), -1);
        Checks.due("none once more", x.undo(), -1);
        x.comes(1, 2);
        Checks.due("of one again", x.undo(), 0);
    }

    private static void undoForgotten() {
        Checks.of(16, "(net() and again() forget them, if they are not refused.)");
        for (String net : new String[] {"", "x", "00000", "02", "2;1", "0;0;0;0;0;0;0;"}) {
            TurningPosts x = Checks.busy();
            Checks.due("net " + net, Checks.net(x, net) < 0, true);
            Checks.due("all can be undone", x.count(8), 6);
        }
        TurningPosts x = Checks.busy();
        for (int i : new int[] {1, 3, -1}) Checks.due("again(" + i + ")", x.again(i), false);
        Checks.due("all can be undone", x.undo(), 5);
        Checks.due("again(0)", x.again(0), true);
        Checks.due("none can be undone", x.undo(), -1);
        x.comes(1, 1);
        Checks.due("but what is done from then on", x.undo(), 0);
        x = Checks.busy();
        Checks.net(x, "02;13;20");
        Checks.due("nor behind a net", x.undo(), -1);
        Checks.due("all is as the net left it", state(x), "0 0 0; 0 0 0; 0 0");
    }
}
