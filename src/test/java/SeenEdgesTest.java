/** Edges that promises 39 to 46 name: what was seen and which way a POST pointed, what was heard and which CROSSING it was. */
public final class SeenEdgesTest {
    private static final int LEAST = Integer.MIN_VALUE;
    private static final int MOST = Integer.MAX_VALUE;
    /** Of a net of three LINES: THE INN, and none such. */
    private static final int[] NO_POST = {0, -1, 4, 7, 8, MOST, LEAST};

    public static void main(String[] args) {
        seen();
        seenRefused();
        forget();
        guess();
        guessBySight();
        looks();
        looksAtMost();
        looksRefused();
        heard();
        heardRefused();
        denies();
        fits();
        fitsByEach();
        asks();
        asksRefused();
        Checks.end("SeenEdgesTest");
    }

    private static TurningPosts three() {
        return Checks.on("02;13;20");
    }

    private static void seen() {
        Checks.of(39, "It was seen that one who starts at a CROSSING now is at another one, at, behind n STEPS (0 .. 20): how many such.");
        TurningPosts x = Checks.on("2;3;4;5;6;7;0");
        Checks.due("0 STEPS", x.seen(1, 0, 1), 1);
        Checks.due("from the last one", x.seen(7, 1, 0), 2);
        Checks.due("at the last one", x.seen(1, 6, 7), 3);
        Checks.due("20 STEPS, THE INN", x.seen(1, 20, 0), 4);
        Checks.due("such", x.count(6), 4);
        Checks.due("all are so", x, x.guess(1), 1, "1 1");
        Checks.due("what is not so", x.seen(1, 20, 1), 5);
        Checks.due("it can't be", x, x.guess(1), 0, "0 0");
    }

    private static TurningPosts sights(int many) {
        TurningPosts x = Checks.busy();
        x.forget();
        for (int i = 1; i <= many; i++) Checks.due("sight " + i, x.seen(2, 1, 1), i);
        return x;
    }

    private static void seenRefused() {
        Checks.of(39, "Refused: others, THE INN as the first, 10.");
        for (int v : NO_POST) Checks.refused("seen(" + v + ", 1, 1)", Checks::busy, y -> y.seen(v, 1, 1), -1);
        Checks.refused("seen(0, 0, 0)", Checks::busy, y -> y.seen(0, 0, 0), -1);
        for (int at : new int[] {-1, 4, 7, 8, MOST, LEAST}) Checks.refused("seen(1, 1, " + at + ")", Checks::busy, y -> y.seen(1, 1, at), -1);
        for (int n : new int[] {-1, 21, MOST, LEAST}) Checks.refused("seen(1, " + n + ", 1)", Checks::busy, y -> y.seen(1, n, 1), -1);
        Checks.due("the tenth", sights(9).seen(3, 20, 3), 10);
        Checks.refused("the eleventh", () -> sights(10), y -> y.seen(2, 1, 3), -1);
        TurningPosts x = sights(10);
        x.seen(2, 1, 3);
        Checks.due("it was not seen", x, x.guess(2), 1, "1 0");
        x.forget();
        Checks.due("then there is room", x.seen(2, 1, 3), 1);
    }

    private static void forget() {
        Checks.of(40, "It is forgotten: how many there were.");
        TurningPosts x = three();
        Checks.due("none", x.forget(), 0);
        for (int many : new int[] {1, 9, 10}) {
            TurningPosts y = sights(many);
            Checks.due(many + " of them", y.forget(), many);
            Checks.due("none is left", y.count(6), 0);
            Checks.due("none once more", y.forget(), 0);
            Checks.due("all can be", y, y.guess(2), 3, "2 1");
            Checks.due("what was heard is not forgotten", y.count(7), 1);
        }
        TurningPosts y = Checks.busy();
        TurningPosts z = Checks.busy();
        y.forget();
        z.forget();
        y.forget();
        Checks.due("none forgotten changes nothing", Whole.of(y), Whole.of(z));
    }

    private static void guess() {
        Checks.of(41, "Numbers (bits) that the POST of a CROSSING can have so that all that was seen is so, all else being as it is: them; the ROW: how many, 1 if its own is one, else 0.");
        TurningPosts x = Checks.on("0;0101;0012");
        Checks.due("nothing seen: all four", x, x.guess(2), 15, "4 1");
        x.points(2, 3);
        Checks.due("its own is the last one", x, x.guess(2), 15, "4 1");
        Checks.due("of one WAY", x, x.guess(1), 1, "1 1");
        x.seen(2, 1, 1);
        Checks.due("two of four", x, x.guess(2), 10, "2 1");
        x.points(2, 2);
        Checks.due("its own is none of them", x, x.guess(2), 10, "2 0");
        Checks.due("of another one none can be, as 2 does not go to 1", x, x.guess(1), 0, "0 0");
        x.seen(2, 1, 0);
        Checks.due("both can't be", x, x.guess(2), 0, "0 0");
        x.forget();
        x.seen(3, 1, 2);
        Checks.due("the last one of four", x, x.guess(3), 8, "1 0");
        Checks.of(41, "NONE: none such, THE INN.");
        for (int v : NO_POST) Checks.refused("guess(" + v + ")", Checks::busy, y -> y.guess(v), -1);
    }

    private static void guessBySight() {
        Checks.of(41, "all that was seen is so, all else being as it is");
        TurningPosts x = Checks.on("02;01");
        x.seen(1, 1, 2);
        Checks.due("1 goes to 2", x, x.guess(1), 2, "1 0");
        Checks.due("whatever 2 does", x, x.guess(2), 0, "0 0");
        x.points(1, 1);
        Checks.due("now it does", x, x.guess(1), 2, "1 1");
        Checks.due("and 2 can be as it likes", x, x.guess(2), 3, "2 1");
        x.undo();
        x.forget();
        // 2 1 0 and 2 0: behind 20 STEPS he is at THE INN, behind 0 where he starts.
        x.seen(2, 20, 0);
        Checks.due("behind 20", x, x.guess(2), 3, "2 1");
        x.seen(2, 0, 2);
        Checks.due("behind 0", x, x.guess(2), 3, "2 1");
        x.seen(2, 0, 1);
        Checks.due("behind 0 elsewhere", x, x.guess(2), 0, "0 0");
        x = Checks.on("20;1");
        Checks.rule(x, "0");
        x.seen(1, 20, 1);
        Checks.due("20 in a ring", x, x.guess(1), 1, "1 1");
        x.seen(1, 19, 2);
        Checks.due("19 in a ring", x, x.guess(1), 1, "1 1");
    }

    private static void looks() {
        Checks.of(42, "Whom to look at next, so that, wherever he is, the fewest of these numbers are left at most: 100 times the CROSSING where he starts, and the STEPS (0 .. 20), of equal ones the least; the ROW: how many at most.");
        TurningPosts x = new TurningPosts();
        Checks.due("of one WAY: the least question", x, x.looks(1), 100, "1");
        x = three();
        Checks.due("by one STEP", x, x.looks(1), 101, "1");
        Checks.due("from 3", x, x.looks(3), 301, "1");
        x = Checks.on("0;0;0;0;0;0;0123");
        Checks.due("from 7", x, x.looks(7), 701, "1");
        for (int k = 0; k < 4; k++) {
            x = Checks.on("0;0;0;0;0;0;1234");
            x.seen(7, 1, k + 1);
            Checks.due("number " + k + " alone is left", x, x.looks(7), 100, "1");
        }
        x = Checks.on("0;0011");
        Checks.due("two and two", x, x.looks(2), 201, "2");
        x = Checks.on("0;0001");
        Checks.due("three and one", x, x.looks(2), 201, "3");
        x.points(2, 3);
        x.seen(2, 1, 0);
        Checks.due("three alike: nothing tells them apart", x, x.looks(2), 100, "3");
        x = Checks.on("0000");
        Checks.due("four alike", x, x.looks(1), 100, "4");
    }

    private static void looksAtMost() {
        Checks.of(42, "the STEPS (0 .. 20)");
        TurningPosts x = Checks.on("0655;165;246;366;466;5555");
        Checks.rule(x, "n");
        Checks.due("20", x, x.looks(4), 420, "1");
        // By 21 STEPS from some CROSSING all three numbers could be told apart.
        x = Checks.on("342;343;102;1;1");
        Checks.rule(x, "n");
        Checks.due("not 21", x, x.looks(2), 201, "2");
        int apart = 0;
        for (int from = 1; from <= 5; from++) {
            int places = 0;
            for (int k = 0; k < 3; k++) {
                x.points(2, k);
                places |= 1 << x.later(from, 21);
            }
            x.points(2, 0);
            if (Integer.bitCount(places) == 3) apart++;
        }
        Checks.due("21 would tell them apart", apart > 0, true);
    }

    private static TurningPosts noneLeft() {
        TurningPosts x = Checks.busy();
        x.seen(2, 1, 1);
        x.seen(2, 1, 3);
        return x;
    }

    private static void looksRefused() {
        Checks.of(42, "-2: none is left");
        Checks.refused("seen at 1 and at 3", SeenEdgesTest::noneLeft, y -> y.looks(2), -2);
        Checks.due("seen at one", three().looks(2), 201);
        TurningPosts x = noneLeft();
        x.forget();
        Checks.due("forgotten", x.looks(2), 201);
        Checks.of(42, "NONE: none such, THE INN.");
        for (int v : NO_POST) {
            Checks.refused("looks(" + v + ")", Checks::busy, y -> y.looks(v), -1);
            Checks.refused("looks(" + v + "), none left", SeenEdgesTest::noneLeft, y -> y.looks(v), -1);
        }
    }

    private static void heard() {
        Checks.of(43, "It was heard of a CROSSING (not 0) that, what 0: it has v (1 .. 4) WAYS; 1: CROWD is v (0 .. 9) or more; 2: its POST goes to CROSSING v (0 .. 7); 3: it is v (1 .. 7) WAYS from THE INN, at the fewest: how many such.");
        int[] first = {1, 0, 0, 1};
        int[] last = {4, 9, 7, 7};
        for (int what = 0; what <= 3; what++) {
            for (int v = -1; v <= 11; v++) {
                boolean can = v >= first[what] && v <= last[what];
                int rumour = what;
                int value = v;
                if (can) Checks.due("heard(" + what + ", " + v + ")", Checks.busy().heard(what, v), 2);
                else Checks.refused("heard(" + what + ", " + v + ")", Checks::busy, y -> y.heard(rumour, value), -1);
            }
        }
    }

    private static TurningPosts rumours(int many) {
        TurningPosts x = Checks.busy();
        x.denies();
        for (int i = 1; i <= many; i++) Checks.due("rumour " + i, x.heard(0, 2), i);
        return x;
    }

    private static void heardRefused() {
        Checks.of(43, "Refused: others, 12.");
        int[][] wrong = {{-1, 1}, {4, 1}, {4, 0}, {MOST, 1}, {LEAST, 1}, {0, MOST}, {0, LEAST}, {1, MOST}, {1, LEAST}, {2, MOST}, {2, LEAST}, {3, MOST}, {3, LEAST}};
        for (int[] call : wrong) Checks.refused("heard(" + call[0] + ", " + call[1] + ")", Checks::busy, y -> y.heard(call[0], call[1]), -1);
        Checks.due("the twelfth", rumours(11).heard(3, 7), 12);
        Checks.refused("the thirteenth", () -> rumours(12), y -> y.heard(0, 1), -1);
        TurningPosts x = rumours(12);
        x.heard(0, 1);
        Checks.due("it was not heard", x, x.fits(), 14, "3");
        x.denies();
        Checks.due("then there is room", x.heard(0, 1), 1);
        Checks.due("it was", x, x.fits(), 0, "0");
    }

    private static void denies() {
        Checks.of(44, "It is denied: how many there were.");
        Checks.due("none", three().denies(), 0);
        for (int many : new int[] {1, 11, 12}) {
            TurningPosts y = rumours(many);
            Checks.due(many + " of them", y.denies(), many);
            Checks.due("none is left", y.count(7), 0);
            Checks.due("none once more", y.denies(), 0);
            Checks.due("all fit", y, y.fits(), 14, "3");
            Checks.due("what was seen is not denied", y.count(6), 2);
        }
        TurningPosts y = Checks.busy();
        TurningPosts z = Checks.busy();
        y.denies();
        z.denies();
        y.denies();
        Checks.due("none denied changes nothing", Whole.of(y), Whole.of(z));
    }

    private static void fits() {
        Checks.of(45, "CROSSINGS (bits) that fit all that was heard; the ROW: how many.");
        TurningPosts x = new TurningPosts();
        Checks.due("nothing heard: all", x, x.fits(), 2, "1");
        x = Checks.on("0;0;0;0;0;0;0");
        Checks.due("nothing heard: all seven", x, x.fits(), 254, "7");
        x.heard(0, 1);
        Checks.due("all have one WAY", x, x.fits(), 254, "7");
        x.heard(1, 1);
        Checks.due("none has a CROWD", x, x.fits(), 0, "0");
        x.comes(7, 1);
        Checks.due("7 has", x, x.fits(), 128, "1");
        x.comes(1, 99);
        Checks.due("1, too", x, x.fits(), 130, "2");
        x.heard(1, 9);
        Checks.due("both are heard", x, x.fits(), 2, "1");
    }

    private static void fitsOf(TurningPosts x, int what, int v, int want) {
        x.denies();
        x.heard(what, v);
        Checks.due("heard(" + what + ", " + v + ")", x, x.fits(), want, "" + Integer.bitCount(want));
    }

    private static void fitsByEach() {
        Checks.of(43, "what 0: it has v (1 .. 4) WAYS");
        TurningPosts x = Checks.on("2;33;444;5555;6;7;0");
        int[] ways = {0, 2 + 32 + 64 + 128, 4, 8, 16};
        for (int v = 1; v <= 4; v++) fitsOf(x, 0, v, ways[v]);
        Checks.of(43, "1: CROWD is v (0 .. 9) or more");
        x.comes(1, 8);
        x.comes(2, 9);
        x.comes(3, 10);
        x.comes(4, 1);
        int[] crowds = {254, 30, 14, 14, 14, 14, 14, 14, 14, 12};
        for (int v = 0; v <= 9; v++) fitsOf(x, 1, v, crowds[v]);
        Checks.of(43, "2: its POST goes to CROSSING v (0 .. 7)");
        for (int v = 0; v <= 7; v++) fitsOf(x, 2, v, v == 0 ? 128 : v == 1 ? 0 : 1 << v - 1);
        Checks.of(43, "3: it is v (1 .. 7) WAYS from THE INN, at the fewest");
        for (int v = 1; v <= 7; v++) fitsOf(x, 3, v, 256 >> v);
        x = Checks.on("20;10;2");
        fitsOf(x, 3, 1, 6);
        fitsOf(x, 3, 2, 8);
        x.points(2, 1);
        fitsOf(x, 2, 0, 4);
        fitsOf(x, 2, 2, 10);
        fitsOf(x, 2, 7, 0);
    }

    private static void asks() {
        Checks.of(46, "What to ask next, so that, it is so or not, the fewest such CROSSINGS are left at most: 10 times what and v, as they may be heard, of equal ones the least; the ROW: how many at most.");
        TurningPosts x = new TurningPosts();
        Checks.due("of one: the least question", x, x.asks(), 1, "1");
        x = Checks.on("0;0;0;0;0;0;0");
        Checks.due("all alike", x, x.asks(), 1, "7");
        for (int v = 1; v <= 3; v++) x.comes(v, 9);
        Checks.due("CROWD of 1 or more", x, x.asks(), 11, "4");
        x = Checks.on("0;0;0;0;0;0;0");
        for (int v = 1; v <= 7; v++) x.comes(v, v < 4 ? 9 : 8);
        Checks.due("CROWD of 9 or more", x, x.asks(), 19, "4");
        x = Checks.on("0;00;000;0000");
        Checks.due("WAYS are all others", x, x.asks(), 1, "3");
        x = Checks.on("00;0000;00;0000");
        Checks.due("two WAYS", x, x.asks(), 2, "2");
        x = Checks.on("7;7;7;5;6;0;0");
        Checks.due("POST to 7", x, x.asks(), 27, "4");
        x = Checks.on("7;7;7;0;0;0;0");
        Checks.due("POST to THE INN", x, x.asks(), 20, "4");
        x = Checks.on("20;30;10;51;62;43");
        Checks.due("one WAY from THE INN", x, x.asks(), 31, "3");
        x = Checks.on("2220;3330;1110;5551;6662;4443");
        x.heard(3, 2);
        Checks.due("of those that fit alone", x, x.asks(), 24, "2");
    }

    private static void asksRefused() {
        Checks.of(46, "-2: none fits.");
        Checks.refused("none has four WAYS", SeenEdgesTest::noneFits, TurningPosts::asks, -2);
        TurningPosts x = noneFits();
        x.denies();
        Checks.due("denied", x.asks() >= 0, true);
        Checks.due("one fits", Checks.busy().asks(), 1);
    }

    private static TurningPosts noneFits() {
        TurningPosts x = Checks.busy();
        x.heard(0, 4);
        return x;
    }
}
