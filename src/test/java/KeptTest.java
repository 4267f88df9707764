/** Promises 51 to 54: what is kept under a number, what is counted, the ROW. */
public final class KeptTest {
    private static final int[] NO_NUMBERS = {-1, 3, 31, 32, Integer.MAX_VALUE, Integer.MIN_VALUE};

    public static void main(String[] args) {
        keep();
        again();
        count();
        row();
        Checks.end("KeptTest");
    }

    private static String state(TurningPosts x) {
        return Checks.posts(x) + " " + Checks.crowds(x) + " " + x.count(2) + " " + x.count(3);
    }

    private static TurningPosts some() {
        TurningPosts x = Checks.on("02;13;20");
        x.comes(2, 5);
        x.walks(2);
        return x;
    }

    private static void keep() {
        TurningPosts x = some();
        for (int i : NO_NUMBERS) Checks.due("keep(" + i + ")", x.keep(i), false);
        for (int i = 0; i <= 2; i++) Checks.due("keep(" + i + ")", x.keep(i), true);
        Checks.due("nothing changes", state(x), "1 1 0 0 4 0 1 2");
        Checks.due("all can be undone", x.count(8), 2);
        x.comes(1, 9);
        Checks.due("anew", x.keep(1), true);
        Checks.due("the first one", x.again(0) ? state(x) : "", "1 1 0 0 4 0 1 2");
        Checks.due("the new one", x.again(1) ? state(x) : "", "1 1 0 9 4 0 1 2");
        Checks.due("the third one", x.again(2) ? state(x) : "", "1 1 0 0 4 0 1 2");
    }

    private static void again() {
        TurningPosts x = some();
        for (int i : NO_NUMBERS) Checks.due("again(" + i + ")", x.again(i), false);
        for (int i = 0; i <= 2; i++) Checks.due("nothing kept " + i, x.again(i), false);
        Checks.due("all can be undone", x.count(8), 2);
        x.keep(2);
        x.ready();
        x.seen(1, 1, 1);
        x.heard(1, 1);
        x.sign(0);
        Checks.rule(x, "3");
        x.sign(0);
        x.points(1, 0);
        x.walks(2);
        x.calms();
        Checks.due("others", x.again(0), false);
        Checks.due("as it was", x.again(2) ? state(x) : "", "1 1 0 0 4 0 1 2");
        Checks.due("nothing to undo", x.undo(), -1);
        Checks.due("THE RULE stays", x.post(1, 4), 3);
        Checks.due("what was seen, heard, THE TEXT stay", x.count(6) + " " + x.count(7) + " " + x.count(10), "1 1 4");
        x.comes(1, 1);
        Checks.due("twice", x.again(2) ? state(x) : "", "1 1 0 0 4 0 1 2");
        Checks.net(x, "0");
        Checks.due("a net forgets it", x.again(2), false);
    }

    private static void count() {
        TurningPosts x = Checks.on("022;130;20");
        x.comes(2, 5);
        x.comes(3, 2);
        x.goes(2);
        x.walks(1);
        x.seen(1, 1, 1);
        x.seen(1, 1, 1);
        x.heard(0, 1);
        x.heard(0, 1);
        x.heard(0, 1);
        x.home(1);
        x.sign(0);
        x.end(3);
        int[] counts = {4, 8, 1, 2, 6, 12, 2, 3, 4, 3, 3};
        for (int what = 0; what < counts.length; what++) Checks.due("count " + what, x.count(what), counts[what]);
        for (int what : new int[] {-1, 11, 12, Integer.MAX_VALUE, Integer.MIN_VALUE}) Checks.due("count " + what, x.count(what), -100);
        x.comes(1, 1);
        Checks.due("all have a CROWD", x.count(5), 14);
    }

    private static void row() {
        TurningPosts x = Checks.on("02;13;20");
        Checks.due("none at first", Checks.rowAt(x, 0), Checks.THROWN);
        x.home(2);
        Checks.due("the first", Checks.rowAt(x, 0), 1);
        Checks.due("the third", Checks.rowAt(x, 2), 0);
        for (int i : new int[] {-1, 3, 8, Integer.MAX_VALUE, Integer.MIN_VALUE}) Checks.due("row " + i, Checks.rowAt(x, i), Checks.THROWN);
        x.fits();
        Checks.due("a shorter one", Checks.rowAt(x, 1), Checks.THROWN);
        x.comes(1, 1);
        x.points(2, 1);
        x.grown();
        x.keep(0);
        x.seen(1, 1, 1);
        x.forget();
        x.heard(1, 1);
        x.denies();
        x.undo();
        x.again(0);
        x.sheet(2, 1, 1, 1);
        Checks.rule(x, "1");
        Checks.due("it stays with what tells none", Checks.row(x), "3");
        x.crowds(1, 2);
        Checks.due("told with nothing in it", Checks.rowAt(x, 0), Checks.THROWN);
        Checks.due("no numbers", x.count(9), 0);
    }
}
