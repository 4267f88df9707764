import java.util.ArrayList;
import java.util.List;
import java.util.NoSuchElementException;
import java.util.function.ToLongFunction;

/** "An object is used for at most 512 calls after it has been made": the 512th one is answered as any. */
public final class LongUseTest {
    private static final int CALLS = 512;
    /** So many calls are behind what moor() makes. */
    private static final int MOOR = 25;

    public static void main(String[] args) {
        questions();
        refused();
        comeAndGo();
        comeAndUndone();
        keptAndAgain();
        texts();
        thrown();
        Checks.end("LongUseTest");
    }

    /** Seven LINES, POSTS turned by a RULE of all letters, CROWDS that can't BURST. */
    private static TurningPosts moor() {
        TurningPosts x = new TurningPosts();
        Checks.net(x, "0456;134;25;37;401;5231;6602");
        Checks.rule(x, "(d+k*2-(w>3))/(c+1)+h*n");
        x.comes(1, 3);
        x.comes(6, 2);
        x.keep(0);
        x.points(6, 2);
        x.seen(6, 1, 3);
        x.heard(0, 4);
        return x;
    }

    private static void questions() {
        List<ToLongFunction<TurningPosts>> all = new ArrayList<>();
        all.addAll(List.of(x -> x.post(6, 4), x -> x.way(6, 3), x -> x.later(6, 99), x -> x.home(6), x -> x.pass(6, 2, 60), x -> x.round(6), x -> x.follows(6), x -> x.tree()));
        all.addAll(List.of(x -> x.trees(), x -> x.plants(99), x -> x.grown(), x -> x.mends(), x -> x.route(6, 0), x -> x.gates(6), x -> x.parish(6), x -> x.mean(6)));
        all.addAll(List.of(x -> x.meets(6, 3), x -> x.odds(6, 8, 0), x -> x.ready(), x -> x.unit(), x -> x.returns(), x -> x.joins(0), x -> x.recurs(6), x -> x.trigger()));
        all.addAll(List.of(x -> x.guess(6), x -> x.looks(6), x -> x.fits(), x -> x.asks(), x -> x.crowds(29, 30), x -> x.waits(6), x -> x.years(5, 60), x -> x.count(4)));
        for (int i = 0; i < all.size(); i++) {
            TurningPosts x = moor();
            long first = all.get(i).applyAsLong(x);
            String row = Checks.row(x);
            int told = 1 + x.count(9);
            // The ROW is asked for by so many calls each time; its last number is what the 512th one answers.
            for (int used = MOOR + 1 + told + 1; used < CALLS - 1 - told; used++) all.get(i).applyAsLong(x);
            Checks.due("question " + i + ", once more", x, all.get(i).applyAsLong(x), first, row);
        }
    }

    private static void refused() {
        TurningPosts x = moor();
        for (int used = MOOR; used < CALLS - 1; used++) x.comes(0, used);
        Checks.due("refused often, then done", x.comes(1, 1), 4);
    }

    /** 85 rounds of six calls. */
    private static void comeAndGo() {
        TurningPosts x = new TurningPosts();
        for (int round = 1; round <= 85; round++) {
            Checks.due("comes", x.comes(1, 99), 99);
            Checks.due("goes", x.goes(1), 0);
            Checks.due("walks", x.walks(1), 1);
            Checks.due("bursts", x.bursts(1), 96);
            Checks.due("calms", x.calms(), 96);
            Checks.due("HOUSED", x.count(2), 99 * round);
        }
        Checks.due("call 511: STEPS", x.count(3), 170);
        Checks.due("call 512: what can be undone", x.count(8), 15);
    }

    private static void comeAndUndone() {
        TurningPosts x = new TurningPosts();
        for (int round = 1; round <= 255; round++) {
            Checks.due("comes", x.comes(1, 1), 1);
            Checks.due("undo", x.undo(), 0);
        }
        Checks.due("call 511", x.undo(), -1);
        Checks.due("call 512", x.comes(1, 1), 1);
    }

    private static void keptAndAgain() {
        TurningPosts x = new TurningPosts();
        for (int round = 0; round < 128; round++) {
            Checks.due("keep", x.keep(round % 3), true);
            x.sheet(2, 1, round, 0);
            Checks.due("again", x.again(round % 3), true);
            Checks.due("CROWD", x.count(4), 0);
        }
    }

    /** 36 rounds of 14 calls: texts of four signs, cut and read. */
    private static void texts() {
        TurningPosts x = new TurningPosts();
        for (int round = 0; round < 36; round++) {
            x.sign('0' << 24 | '0' << 16 | ';' << 8 | '1');
            Checks.due("net", x.net(), 3);
            x.sign('k' << 24 | '+' << 16 | 'd' << 8);
            Checks.due("end", x.end(3), true);
            Checks.due("rule", x.rule(), 0);
            x.sign('c' << 24 | '1' << 16 | '1' << 8 | 'a');
            Checks.due("day", x.day(), 2);
            x.sign('0' << 24 | '*' << 16 | 'd' << 8 | '?');
            Checks.due("law", x.law(), -10003);
            x.sign('d' << 24 | '*' << 16 | 'd' << 8 | 'd');
            Checks.due("law", x.law(), -10003);
            for (int i = 0; i < 3; i++) Checks.due("end", x.end(0), true);
        }
    }

    private static void thrown() {
        TurningPosts x = new TurningPosts();
        int thrown = 0;
        for (int call = 0; call < CALLS; call++) {
            try {
                if (call % 3 == 0) x.post(2, 0);
                else if (call % 3 == 1) x.way(1, 1);
                else x.row(0);
            } catch (NoSuchElementException e) {
                thrown++;
            }
        }
        Checks.due("thrown", thrown, CALLS);
    }
}
