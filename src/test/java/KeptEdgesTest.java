/** Edges that promises 51 to 54 name: what is kept under a number, what is counted, the ROW. */
public final class KeptEdgesTest {
    private static final int LEAST = Integer.MIN_VALUE;
    private static final int MOST = Integer.MAX_VALUE;
    private static final int[] NO_NUMBERS = {-1, 3, 4, 31, 32, 33, 34, MOST, LEAST};

    public static void main(String[] args) {
        keep();
        keepRefused();
        again();
        againRefused();
        count();
        countOfFull();
        countOfNone();
        row();
        rowThrows();
        Checks.end("KeptEdgesTest");
    }

    private static String state(TurningPosts x) {
        return Checks.crowds(x) + "; " + Checks.posts(x) + "; " + x.count(2) + " " + x.count(3);
    }

    /** POSTS 1 1 0, CROWDS 0 4 0, HOUSED 1, STEPS 2. */
    private static TurningPosts some() {
        TurningPosts x = Checks.on("02;13;20");
        x.comes(2, 5);
        x.walks(2);
        return x;
    }

    private static void keep() {
        Checks.of(51, "What undo() brings back is kept under a number 0 .. 2: true.");
        TurningPosts x = some();
        String first = state(x);
        Checks.due("state", first, "0 4 0; 1 1 0; 1 2");
        for (int i = 0; i <= 2; i++) Checks.due("keep(" + i + ")", x.keep(i), true);
        Checks.due("nothing changes", state(x) + " " + x.count(8) + " " + Checks.row(x), first + " 2 7");
        x.points(3, 1);
        x.comes(1, 9);
        x.goes(1);
        String second = state(x);
        Checks.due("anew", x.keep(1), true);
        x.calms();
        x.goes(1);
        Checks.due("as it was at first", x.again(0) ? state(x) : "", first);
        Checks.due("as it was then", x.again(1) ? state(x) : "", second);
        Checks.due("what is kept of what is kept", x.keep(0) && x.again(0) ? state(x) : "", second);
        Checks.due("the third as it was at first", x.again(2) ? state(x) : "", first);
        TurningPosts y = Checks.busy();
        TurningPosts z = Checks.busy();
        y.keep(0);
        z.keep(0);
        y.keep(0);
        Checks.due("keeping once more changes nothing", Whole.of(y), Whole.of(z));
    }

    private static void keepRefused() {
        Checks.of(51, "Refused: others.");
        for (int i : NO_NUMBERS) Checks.refused("keep(" + i + ")", Checks::busy, y -> y.keep(i) ? 1 : 0, 0);
    }

    private static void again() {
        Checks.of(52, "It is as it was kept under a number.");
        for (int i = 0; i <= 2; i++) {
            TurningPosts x = some();
            x.keep(i);
            x.points(3, 1);
            x.comes(3, 7);
            x.calms();
            x.walks(1);
            Checks.due("again(" + i + ")", x.again(i), true);
            Checks.due("as it was", state(x), "0 4 0; 1 1 0; 1 2");
            Checks.due("nothing to undo", x.undo(), -1);
            x.comes(1, 1);
            Checks.due("once more", x.again(i), true);
            Checks.due("as it was, once more", state(x), "0 4 0; 1 1 0; 1 2");
        }
        TurningPosts seven = Checks.busyOfSeven();
        String then = state(seven);
        seven.keep(0);
        for (int v = 1; v <= 7; v++) {
            seven.points(v, (seven.post(v, 1) + 1) % 4);
            seven.comes(v, 9);
        }
        Checks.due("all seven", seven.again(0) ? state(seven) : "", then);
        TurningPosts x = Checks.busy();
        TurningPosts y = Checks.busy();
        x.points(1, 1);
        Checks.due("again", x.again(0) == y.again(0), true);
        Checks.due("THE RULE, THE TEXT, the ROW, what was seen, heard, kept stay", Whole.of(x), Whole.of(y));
    }

    private static void againRefused() {
        Checks.of(52, "Refused: nothing kept (since the net came).");
        for (int i = 0; i <= 2; i++) {
            int number = i;
            Checks.due("of a new one", new TurningPosts().again(i), false);
            Checks.refused("nothing kept under " + i, KeptEdgesTest::some, y -> y.again(number) ? 1 : 0, 0);
        }
        Checks.refused("under 1, as under 0 and 2 is", Checks::busy, y -> y.again(1) ? 1 : 0, 0);
        for (int i : NO_NUMBERS) Checks.refused("again(" + i + ")", Checks::busy, y -> y.again(i) ? 1 : 0, 0);
        TurningPosts x = Checks.busy();
        Checks.net(x, "2;1");
        Checks.due("a net that is refused", x.again(2), true);
        Checks.net(x, "02;13;20");
        for (int i = 0; i <= 2; i++) Checks.due("the net came", x.again(i), false);
        x.keep(1);
        Checks.due("kept since", x.again(1), true);
        Checks.due("not since", x.again(0), false);
    }

    private static void count() {
        Checks.of(53, "What 0: CROSSINGS, 1: WAYS of all, 2: HOUSED, 3: STEPS, 4: walkers of all CROWDS, 5: which have a CROWD (bits), 6: what was seen, 7: what was heard, 8: what can be undone, 9: numbers of the ROW, 10: signs of THE TEXT.");
        int[] first = {2, 1, 0, 0, 0, 0, 0, 0, 0, 0, 0};
        for (int what = 0; what <= 10; what++) Checks.due("of a new one " + what, new TurningPosts().count(what), first[what]);
        TurningPosts x = Checks.busy();
        int[] then = {4, 6, 1, 2, 7, 14, 2, 1, 6, 3, 3};
        for (int what = 0; what <= 10; what++) Checks.due("of busy " + what, x.count(what), then[what]);
    }

    private static void countOfFull() {
        Checks.of(53, "5: which have a CROWD (bits), 6: what was seen, 7: what was heard, 8: what can be undone, 9: numbers of the ROW, 10: signs of THE TEXT.");
        TurningPosts x = Checks.on("0000;0000;0000;0000;0000;0000;0000");
        for (int v = 1; v <= 7; v++) x.comes(v, 99);
        x.calms();
        for (int v = 1; v <= 7; v++) x.comes(v, 96);
        for (int i = 0; i < 12; i++) {
            x.seen(1, 1, 0);
            x.heard(0, 4);
        }
        x.home(1);
        x.route(0, 0);
        x.plants(999);
        for (int i = 0; i < 21; i++) x.sign(0);
        // Of 99 each 96 come to THE INN by BURSTS of four, and 96 come again.
        int[] answers = {8, 28, 7 * 96, 0, 7 * 99, 254, 10, 12, 15, 7, 80};
        for (int what = 0; what <= 10; what++) Checks.due("count " + what, x.count(what), answers[what]);
        x.route(0, 0);
        Checks.due("a ROW of none", x.count(9), 0);
        x.end(0);
        Checks.due("a TEXT of none", x.count(10), 0);
    }

    private static void countOfNone() {
        Checks.of(53, "-100 for another what.");
        for (int what : new int[] {-1, 11, 12, -100, MOST, LEAST}) Checks.refused("count(" + what + ")", Checks::busy, y -> y.count(what), -100);
    }

    private static void row() {
        Checks.of(54, "Number i of the ROW.");
        TurningPosts x = Checks.on("2;3;4;5;6;7;0");
        x.route(1, 0);
        for (int i = 0; i < 7; i++) Checks.due("number " + i, Checks.rowAt(x, i), i < 6 ? i + 2 : 0);
        x = Checks.on("0777;1777;2777;3777;4777;5777;6666");
        x.mean(7);
        Checks.due("the upper number", Checks.rowAt(x, 0), 9556);
        Checks.due("the lower number", Checks.rowAt(x, 1), 1);
    }

    private static void rowThrows() {
        Checks.of(54, "NoSuchElementException: none such.");
        TurningPosts x = new TurningPosts();
        for (int i : new int[] {0, 1, -1, MOST, LEAST}) Checks.due("of no ROW, " + i, Checks.rowAt(x, i), Checks.THROWN);
        for (int i : new int[] {3, 4, 7, 8, -1, MOST, LEAST}) Checks.refused("row(" + i + ") of three", Checks::busy, y -> Checks.rowAt(y, i), Checks.THROWN);
        Checks.due("row(2) of three", Checks.rowAt(Checks.busy(), 2), 1);
        x = Checks.on("2;3;4;5;6;7;0");
        x.route(1, 0);
        Checks.due("row(7) of seven", Checks.rowAt(x, 7), Checks.THROWN);
        x.route(7, 0);
        Checks.due("row(1) of a shorter one", Checks.rowAt(x, 1), Checks.THROWN);
        x.route(7, 7);
        Checks.due("row(0) of one with nothing in it", Checks.rowAt(x, 0), Checks.THROWN);
    }
}
