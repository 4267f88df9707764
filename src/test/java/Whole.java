/** The whole state of an object, as far as its calls tell it: two that are alike tell the same. It uses the object up. */
final class Whole {
    private Whole() {
    }

    static String of(TurningPosts x) {
        StringBuilder all = new StringBuilder("counts");
        for (int what = 0; what <= 10; what++) all.append(' ').append(x.count(what));
        all.append("; ROW ").append(Checks.row(x));
        all.append("; net ").append(net(x)).append("; now ").append(standing(x));
        all.append("; seen");
        int crossings = x.count(0);
        for (int v = 1; v < crossings; v++) all.append(' ').append(x.guess(v));
        all.append("; heard ").append(x.fits()).append("; kept");
        for (int i = 0; i <= 2; i++) all.append(' ').append(x.joins(i)).append(',').append(Checks.row(x));
        all.append("; undone");
        for (int left = x.count(8); left > 0; left--) all.append(' ').append(x.undo()).append(',').append(standing(x));
        all.append("; again");
        for (int i = 0; i <= 2; i++) all.append(' ').append(x.again(i)).append(',').append(standing(x));
        return all.append("; THE TEXT ").append(x.net()).append(',').append(net(x)).toString();
    }

    /** WAYS of all. */
    private static String net(TurningPosts x) {
        StringBuilder all = new StringBuilder();
        int crossings = x.count(0);
        for (int v = 1; v < crossings; v++) {
            int ways = x.post(v, 0);
            for (int k = 0; k < ways; k++) all.append(x.way(v, k));
            all.append(';');
        }
        return all.toString();
    }

    /** POSTS, CROWDS, TURNS, HOUSED, STEPS. */
    private static String standing(TurningPosts x) {
        return Checks.posts(x) + "," + Checks.crowds(x) + "," + Checks.all(x, 4) + "," + x.count(2) + "," + x.count(3);
    }
}
