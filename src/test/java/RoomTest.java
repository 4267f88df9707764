import com.sun.management.ThreadMXBean;
import java.lang.management.ManagementFactory;
import java.util.NoSuchElementException;

/**
 * What 512 calls make fits into the room: 600,000 objects of 16 bytes at least, 7.3 million fields and
 * elements of a byte at least. What is below 7.3 million bytes has not so many of either.
 */
public final class RoomTest {
    private static final int CALLS = 512;
    private static final long ROOM = 7300000;

    private static long bytes() {
        return ((ThreadMXBean) ManagementFactory.getThreadMXBean()).getCurrentThreadAllocatedBytes();
    }

    public static void main(String[] args) {
        calls(moor());
        long first = bytes();
        // More than 200 calls each.
        for (int round = 0; round < 3; round++) calls(moor());
        due("new objects and all calls of each", first);
        first = bytes();
        TurningPosts x = new TurningPosts();
        for (int call = 0; call < CALLS; call++) thrown(x);
        due("calls that throw", first);
        Checks.end("RoomTest");
    }

    private static void due(String what, long first) {
        long made = bytes() - first;
        Checks.due(what + " make " + made + " bytes", made < ROOM, true);
    }

    private static void thrown(TurningPosts x) {
        try {
            x.post(8, 0);
        } catch (NoSuchElementException e) {
            // The exception is what is counted.
        }
    }

    private static TurningPosts moor() {
        TurningPosts x = new TurningPosts();
        Checks.net(x, "0456;134;25;37;401;5231;6602");
        Checks.rule(x, "(d+k*2-(w>3))/(c+1)+h*n");
        return x;
    }

    /** Each call of the face but those that throw. */
    private static void calls(TurningPosts x) {
        texts(x);
        for (int v = 0; v < 8; v++) {
            x.comes(v, 9);
            x.goes(v);
            x.walks(v);
            x.bursts(v);
            x.points(v, 1);
            x.later(v, 99);
            x.home(v);
            x.pass(v, 2, 60);
            x.round(v);
            x.follows(v);
            x.route(v, 0);
            x.gates(v);
            x.parish(v);
            x.mean(v);
            x.meets(v, 3);
            x.odds(v, 8, 0);
            x.recurs(v);
            x.seen(v, 3, 2);
            x.guess(v);
            x.looks(v);
            x.heard(v / 2, v);
        }
        x.calms();
        x.undo();
        x.tree();
        x.trees();
        x.plants(999);
        x.grown();
        x.mends();
        rest(x);
    }

    private static void texts(TurningPosts x) {
        for (int i = 0; i < 20; i++) x.sign('a' << 24 | 'a' << 16 | 'a' << 8 | 'a');
        x.end(60);
        x.day();
        for (int i = 0; i < 10; i++) x.sign('d' << 24 | '+' << 16 | 'd' << 8 | '+');
        x.end(39);
        x.law();
    }

    private static void rest(TurningPosts x) {
        x.ready();
        x.unit();
        x.returns();
        x.keep(0);
        x.joins(0);
        x.sheet(2, 7, 0, 0);
        x.trigger();
        x.recurs(3);
        x.fits();
        x.asks();
        x.forget();
        x.guess(3);
        x.looks(3);
        x.denies();
        x.asks();
        x.crowds(29, 30);
        x.waits(6);
        x.years(5, 60);
        x.again(0);
        x.count(4);
    }
}
