import java.math.BigInteger;
import java.util.ArrayDeque;
import java.util.ArrayList;
import java.util.Arrays;
import java.util.Deque;
import java.util.HashMap;
import java.util.HashSet;
import java.util.List;
import java.util.Map;
import java.util.NoSuchElementException;
import java.util.Set;
import java.util.regex.Matcher;
import java.util.regex.Pattern;

/**
 * The document once more, as slowly and as plainly as can be: all settings are tried, walkers
 * are members of a CROWD, one BURST comes behind the other, rules are read anew for each TURN.
 * It shares no code and, where there is a choice, no way of reckoning with TurningPosts.
 */
final class Oracle {
    /** POSTS, CROWDS, HOUSED, STEPS. */
    private static final class State {
        int[] post = new int[8];
        int[] crowd = new int[8];
        int housed = 0;
        int steps = 0;

        State copy() {
            State other = new State();
            other.post = post.clone();
            other.crowd = crowd.clone();
            other.housed = housed;
            other.steps = steps;
            return other;
        }
    }

    private static final class Stopped extends RuntimeException {
        private static final long serialVersionUID = 1;
        final int answer;

        Stopped(int answer) {
            super(null, null, false, false);
            this.answer = answer;
        }
    }

    private String text = "";
    private String rule = "";
    private List<List<Integer>> ways = List.of(List.of(), List.of(0));
    private State now = new State();
    private final Deque<State> undoable = new ArrayDeque<>();
    private final State[] kept = new State[3];
    private final List<int[]> sights = new ArrayList<>();
    private final List<int[]> rumours = new ArrayList<>();
    private List<Long> row = List.of();

    private int size() {
        return ways.size();
    }

    private boolean isCrossing(int v) {
        return v >= 0 && v < size();
    }

    private boolean isOut(int v) {
        return v > 0 && v < size();
    }

    private void tell(long... numbers) {
        row = new ArrayList<>();
        for (long number : numbers) row.add(number);
    }

    private void tellFrom1(int[] numbers) {
        row = new ArrayList<>();
        for (int v = 1; v < size(); v++) row.add((long) numbers[v]);
    }

    // ---- the net

    public int sign(int v) {
        if (text.length() > 76) return -1;
        for (int shift = 24; shift >= 0; shift -= 8) text += (char) (v >> shift & 0xff);
        return text.length();
    }

    public boolean end(int n) {
        if (n < 0 || text.length() < n) return false;
        text = text.substring(0, n);
        return true;
    }

    private static final Pattern NET = netPattern();

    private static Pattern netPattern() {
        String behind = ";?";
        for (int line = 7; line >= 1; line--) {
            String digits = "[" + "01234567".replace("" + line, "") + "]{1,4}";
            behind = line == 1 ? digits + behind : "(;" + digits + behind + ")?";
        }
        return Pattern.compile(behind);
    }

    private static final Pattern DAY = Pattern.compile("(c\\d[1-9]|[gwb]\\d|a|p\\d[0-3])*");

    /** Where a text fails that is to be matched: the first sign that no match can have there. */
    private static int failsAt(Pattern pattern, String text) {
        for (int p = 1; p <= text.length(); p++) {
            Matcher matcher = pattern.matcher(text.substring(0, p));
            if (!matcher.matches() && !matcher.hitEnd()) return p - 1;
        }
        return -1;
    }

    public int net() {
        String told = text;
        text = "";
        int fails = failsAt(NET, told);
        if (fails >= 0) return -1 - fails;
        if (told.isEmpty() || told.endsWith(";")) return -1 - told.length();
        List<List<Integer>> drawn = new ArrayList<>();
        drawn.add(List.of());
        for (String line : told.split(";")) {
            List<Integer> goals = new ArrayList<>();
            for (char digit : line.toCharArray()) goals.add(digit - '0');
            drawn.add(goals);
        }
        for (List<Integer> goals : drawn) {
            for (int goal : goals) {
                if (goal >= drawn.size()) return -100;
            }
        }
        for (int v = 1; v < drawn.size(); v++) {
            if (!reached(drawn, v, Set.of()).contains(0)) return -101;
        }
        ways = drawn;
        now = new State();
        undoable.clear();
        Arrays.fill(kept, null);
        sights.clear();
        rumours.clear();
        return ways.size();
    }

    private static Set<Integer> reached(List<List<Integer>> net, int from, Set<Integer> closed) {
        Set<Integer> all = new HashSet<>();
        Deque<Integer> open = new ArrayDeque<>();
        open.push(from);
        while (!open.isEmpty()) {
            int at = open.pop();
            if (closed.contains(at) || !all.add(at)) continue;
            for (int goal : net.get(at)) open.push(goal);
        }
        return all;
    }

    public int rule() {
        String told = text;
        text = "";
        int fails = ruleFailsAt(told);
        if (fails >= 0) return -1 - fails;
        rule = told;
        return 0;
    }

    private static int ruleFailsAt(String told) {
        for (int p = 1; p <= told.length() && p <= 40; p++) {
            if (!canGoOn(told.substring(0, p))) return p - 1;
        }
        if (told.length() > 40) return 40;
        return told.isEmpty() || new Reader(told).isWhole() ? -1 : told.length();
    }

    private static boolean canGoOn(String begun) {
        String closes = "";
        for (int depth = 0; depth <= 4; depth++) {
            if (new Reader(begun + closes).isWhole() || new Reader(begun + "1" + closes).isWhole()) return true;
            closes += ")";
        }
        return false;
    }

    /** Reads and reckons a rule from left to right, by its grammar. */
    private static final class Reader {
        private final String signs;
        private int p = 0;
        private boolean fails = false;
        private Map<Character, Integer> letters = Map.of();

        Reader(String signs) {
            this.signs = signs;
        }

        boolean isWhole() {
            expression(0);
            return !fails && p == signs.length();
        }

        int value(Map<Character, Integer> of) {
            letters = of;
            return expression(0);
        }

        private char sign() {
            return p < signs.length() ? signs.charAt(p) : 0;
        }

        private int expression(int depth) {
            int a = sum(depth);
            char sign = sign();
            if (sign != '<' && sign != '>' && sign != '=') return a;
            p++;
            int b = sum(depth);
            return (sign == '<' ? a < b : sign == '>' ? a > b : a == b) ? 1 : 0;
        }

        private int sum(int depth) {
            int a = product(depth);
            while (sign() == '+' || sign() == '-') {
                char sign = signs.charAt(p++);
                int b = product(depth);
                a = sign == '+' ? a + b : a - b;
            }
            return a;
        }

        private int product(int depth) {
            int a = thing(depth);
            while (sign() == '*' || sign() == '/') {
                char sign = signs.charAt(p++);
                int b = thing(depth);
                a = sign == '*' ? a * b : b == 0 ? 0 : a / b;
            }
            return a;
        }

        private int thing(int depth) {
            char sign = sign();
            if (fails || sign == 0) {
                fails = true;
                return 0;
            }
            p++;
            if (sign == '-') return -thing(depth);
            if (sign == '(') {
                if (depth == 4) fails = true;
                int value = fails ? 0 : expression(depth + 1);
                if (sign() != ')') fails = true;
                p++;
                return value;
            }
            if ("dkwcihn".indexOf(sign) >= 0) return letters.getOrDefault(sign, 0);
            if (sign < '0' || sign > '9') {
                fails = true;
                return 0;
            }
            int value = sign - '0';
            for (int more = 0; more < 2 && sign() >= '0' && sign() <= '9'; more++) value = value * 10 + (signs.charAt(p++) - '0');
            return value;
        }
    }

    private int turn(State at, String by, int v) {
        if (by.isEmpty()) return 1;
        Map<Character, Integer> letters = new HashMap<>();
        letters.put('d', ways.get(v).size());
        letters.put('k', at.post[v]);
        letters.put('w', ways.get(v).get(at.post[v]));
        letters.put('c', at.crowd[v]);
        letters.put('i', v);
        letters.put('h', at.housed % 7);
        letters.put('n', at.steps % 7);
        int value = new Reader(by).value(letters);
        return value < 0 ? 0 : value > 9 ? 9 : value;
    }

    public int post(int crossing, int what) {
        if (!isCrossing(crossing) || what < 0 || what > 5) throw new NoSuchElementException();
        if (crossing == 0) return what == 3 ? now.housed : 0;
        if (what == 0) return ways.get(crossing).size();
        if (what == 1) return now.post[crossing];
        if (what == 2) return ways.get(crossing).get(now.post[crossing]);
        if (what == 3) return now.crowd[crossing];
        return what == 4 ? turn(now, rule, crossing) : fewest(crossing, 0);
    }

    /** By going on from one crossing in rounds; -1 if one never comes there. */
    private int fewest(int from, int to) {
        Set<Integer> front = Set.of(from);
        for (int far = 0; far < 9; far++) {
            if (front.contains(to)) return far;
            Set<Integer> next = new HashSet<>();
            for (int v : front) next.addAll(ways.get(v));
            front = next;
        }
        return -1;
    }

    public int way(int crossing, int k) {
        if (!isCrossing(crossing) || k < 0 || k >= ways.get(crossing).size()) throw new NoSuchElementException();
        return ways.get(crossing).get(k);
    }

    public int sheet(int kind, int n, int f, int step) {
        if (kind < 0 || kind > 3 || n > 7) return -1;
        if (n < 0 && kind < 3) return -2;
        Arrays.fill(now.crowd, 0);
        if (kind == 3) return -3;
        int sum = 0;
        int entry = f;
        for (int v = 1; v <= n; v++) {
            long value = kind == 0 ? (byte) entry : kind == 1 ? (short) entry : entry;
            if (v < size()) {
                now.crowd[v] = (int) Math.max(0, Math.min(9, value));
                sum += now.crowd[v];
            }
            entry += step;
        }
        return sum;
    }

    // ---- walkers, crowds

    private int done(State ahead, int answer) {
        if (answer < 0) return answer;
        undoable.addLast(ahead);
        if (undoable.size() > 15) undoable.removeFirst();
        return answer;
    }

    public int comes(int crossing, int n) {
        return done(now.copy(), act('c', crossing, n));
    }

    public int goes(int crossing) {
        return done(now.copy(), act('g', crossing, 0));
    }

    public int walks(int crossing) {
        return done(now.copy(), act('w', crossing, 0));
    }

    public int bursts(int crossing) {
        return done(now.copy(), act('b', crossing, 0));
    }

    public int calms() {
        return done(now.copy(), act('a', 0, 0));
    }

    public int points(int crossing, int k) {
        return done(now.copy(), act('p', crossing, k));
    }

    private int act(char kind, int v, int n) {
        if (kind == 'a') return actCalms();
        if (!isOut(v)) return -1;
        if (kind == 'c') {
            if (n < 1 || n > 99) return -1;
            if (now.crowd[v] + n > 99) return -2;
            return now.crowd[v] += n;
        }
        if (kind == 'p') {
            if (n < 0 || n >= ways.get(v).size()) return -1;
            if (now.post[v] == n) return -2;
            int old = now.post[v];
            now.post[v] = n;
            return 10 + old;
        }
        if (now.crowd[v] < (kind == 'b' ? ways.get(v).size() : 1)) return -2;
        if (kind == 'b') {
            burst(now, v);
            return now.crowd[v];
        }
        if (kind == 'g') {
            int to = step(now, rule, v);
            tell(now.post[v], now.crowd[v]);
            return to;
        }
        State walked = now.copy();
        List<Integer> track = track(walked, rule, v, 999);
        if (track.get(track.size() - 1) != 0) return -3;
        now = walked;
        int through = 0;
        for (int at : track) through |= 1 << at;
        tell(through);
        return track.size() - 1;
    }

    private int actCalms() {
        State calm = now.copy();
        int[] times = new int[8];
        int all = calm(calm, times);
        if (all < 0) return all;
        now = calm;
        tellFrom1(times);
        return all;
    }

    /** One of the CROWD goes a STEP. */
    private int step(State at, String by, int v) {
        at.crowd[v]--;
        int turn = turn(at, by, v);
        int to = ways.get(v).get(at.post[v]);
        at.post[v] = (at.post[v] + turn) % ways.get(v).size();
        arrive(at, to);
        at.steps = at.steps == 99999 ? 99999 : at.steps + 1;
        return to;
    }

    private static void arrive(State at, int to) {
        if (to > 0) at.crowd[to]++;
        else if (at.housed < 9999) at.housed++;
    }

    /** All CROSSINGS at which one of the CROWD is, at most so many STEPS, or till THE INN. */
    private List<Integer> track(State at, String by, int from, int most) {
        List<Integer> track = new ArrayList<>(List.of(from));
        int v = from;
        for (int gone = 0; gone < most && v != 0; gone++) {
            v = step(at, by, v);
            track.add(v);
        }
        return track;
    }

    /** All CROSSINGS of one more who starts now; the state goes on, and he leaves no trace in CROWDS. */
    private List<Integer> guest(State at, String by, int from, int most) {
        at.crowd[from]++;
        List<Integer> track = track(at, by, from, most);
        int last = track.get(track.size() - 1);
        if (last != 0) at.crowd[last]--;
        return track;
    }

    private void burst(State at, int v) {
        at.crowd[v] -= ways.get(v).size();
        for (int to : ways.get(v)) arrive(at, to);
    }

    /** One BURST of the last CROSSING that can, again and again. */
    private int calm(State at, int[] times) {
        for (int all = 0; all <= 9999; all++) {
            int v = size() - 1;
            while (v > 0 && at.crowd[v] < ways.get(v).size()) v--;
            if (v == 0) return all;
            burst(at, v);
            times[v]++;
        }
        return -3;
    }

    public int day() {
        String told = text;
        text = "";
        String ahead = told.length() > 60 ? told.substring(0, 60) : told;
        int fails = failsAt(DAY, ahead);
        if (fails >= 0) return -1 - fails;
        if (told.length() > 60) return -61;
        if (!DAY.matcher(told).matches()) return -1 - told.length();
        State start = now.copy();
        int done = 0;
        boolean refused = false;
        Matcher acts = Pattern.compile("[cp]..|[gwb].|a").matcher(told);
        while (!refused && acts.find()) {
            String act = acts.group();
            int answer = act(act.charAt(0), act.length() > 1 ? act.charAt(1) - '0' : 0, act.length() > 2 ? act.charAt(2) - '0' : 0);
            refused = answer < 0;
            if (!refused) done++;
        }
        if (done > 0) done(start, 0);
        tell(refused ? 1 : 0, now.housed);
        return done;
    }

    public int undo() {
        if (undoable.isEmpty()) return -1;
        now = undoable.removeLast();
        return undoable.size();
    }

    // ---- where walkers come to

    public int later(int crossing, int n) {
        if (!isOut(crossing) || n < 0 || n > 99) return -1;
        List<Integer> track = guest(now.copy(), rule, crossing, n);
        int visits = 0;
        for (int at : track) visits += at == crossing ? 1 : 0;
        tell(track.size() - 1, visits);
        return track.get(track.size() - 1);
    }

    public int home(int crossing) {
        if (!isOut(crossing)) return -1;
        List<Integer> track = guest(now.copy(), rule, crossing, 999);
        if (track.get(track.size() - 1) != 0) return -3;
        int[] left = new int[8];
        for (int at : track) left[at]++;
        tellFrom1(left);
        return track.size() - 1;
    }

    public int pass(int crossing, int to, int n) {
        if (!isOut(crossing) || !isOut(to) || n < 1 || n > 60) return -1;
        State at = now.copy();
        int steps = 0;
        int through = 0;
        for (int i = 0; i < n; i++) {
            List<Integer> track = guest(at, rule, crossing, 999);
            if (track.get(track.size() - 1) != 0) return -3;
            steps += track.size() - 1;
            if (track.contains(to)) through++;
        }
        tell(steps);
        return through;
    }

    public int round(int crossing) {
        if (!isOut(crossing)) return -1;
        State at = now.copy();
        int steps = 0;
        for (int i = 1; i <= 300; i++) {
            List<Integer> track = guest(at, rule, crossing, 999);
            if (track.get(track.size() - 1) != 0) return -3;
            steps += track.size() - 1;
            if (Arrays.equals(at.post, now.post)) {
                tell(steps);
                return i;
            }
        }
        return -2;
    }

    public int follows(int crossing) {
        if (!isOut(crossing)) return -1;
        List<Integer> track = still(crossing, now.post);
        int through = 0;
        for (int at : track) through |= 1 << at;
        tell(track.get(track.size() - 1) == 0 ? 1 : 0, track.size() - 1);
        return through;
    }

    /** By posts that do not turn, till THE INN or till somewhere for the second time. */
    private List<Integer> still(int from, int[] post) {
        List<Integer> track = new ArrayList<>(List.of(from));
        while (true) {
            int at = track.get(track.size() - 1);
            if (at == 0 || track.indexOf(at) < track.size() - 1) return track;
            track.add(ways.get(at).get(post[at]));
        }
    }

    // ---- trees

    public int tree() {
        int home = 0;
        Set<Set<Integer>> rings = new HashSet<>();
        for (int v = 1; v < size(); v++) {
            List<Integer> track = still(v, now.post);
            int last = track.get(track.size() - 1);
            if (last == 0) home++;
            else rings.add(new HashSet<>(track.subList(track.indexOf(last), track.size())));
        }
        tell(home == size() - 1 ? 1 : 0, rings.size());
        return home;
    }

    private boolean isTree(int[] post) {
        for (int v = 1; v < size(); v++) {
            List<Integer> track = still(v, post);
            if (track.get(track.size() - 1) != 0) return false;
        }
        return true;
    }

    /** All settings of POSTS, the last one turning fastest. */
    private List<int[]> settings() {
        List<int[]> all = new ArrayList<>();
        all.add(new int[8]);
        for (int v = 1; v < size(); v++) {
            List<int[]> longer = new ArrayList<>();
            for (int[] begun : all) {
                for (int k = 0; k < ways.get(v).size(); k++) {
                    int[] post = begun.clone();
                    post[v] = k;
                    longer.add(post);
                }
            }
            all = longer;
        }
        return all;
    }

    private List<int[]> allTrees() {
        List<int[]> all = new ArrayList<>();
        for (int[] post : settings()) {
            if (isTree(post)) all.add(post);
        }
        return all;
    }

    public int trees() {
        tell(settings().size());
        return allTrees().size();
    }

    public int plants(int n) {
        if (n < 0 || n > 999) return -1;
        List<int[]> all = allTrees();
        if (n >= all.size()) return -2;
        tellFrom1(all.get(n));
        return 0;
    }

    public int grown() {
        List<int[]> all = allTrees();
        for (int n = 0; n < all.size(); n++) {
            if (Arrays.equals(all.get(n), now.post)) return n;
        }
        return -2;
    }

    public int mends() {
        int[] best = null;
        int fewest = 99;
        for (int[] post : allTrees()) {
            int set = 0;
            for (int v = 1; v < size(); v++) set += post[v] == now.post[v] ? 0 : 1;
            if (set < fewest) {
                fewest = set;
                best = post;
            }
        }
        tellFrom1(best);
        return fewest;
    }

    // ---- ways, by fewest WAYS

    public int route(int from, int to) {
        if (!isCrossing(from) || !isCrossing(to)) return -1;
        int far = fewest(from, to);
        if (far < 0) return -2;
        List<List<Long>> all = new ArrayList<>();
        routes(from, to, far, new ArrayList<>(), all);
        List<Long> least = all.get(0);
        for (List<Long> other : all) {
            for (int i = 0; i < far; i++) {
                if (other.get(i).equals(least.get(i))) continue;
                if (other.get(i) < least.get(i)) least = other;
                break;
            }
        }
        row = least;
        return far;
    }

    private void routes(int at, int to, int left, List<Long> gone, List<List<Long>> all) {
        if (left == 0) {
            if (at == to) all.add(new ArrayList<>(gone));
            return;
        }
        for (int goal : ways.get(at)) {
            gone.add((long) goal);
            routes(goal, to, left - 1, gone, all);
            gone.remove(gone.size() - 1);
        }
    }

    public int gates(int crossing) {
        if (!isOut(crossing)) return -1;
        int gates = 0;
        for (int v = 1; v < size(); v++) {
            if (v != crossing && !reached(ways, crossing, Set.of(v)).contains(0)) gates |= 1 << v;
        }
        tell(Integer.bitCount(gates));
        return gates;
    }

    public int parish(int crossing) {
        if (!isCrossing(crossing)) return -1;
        Set<Integer> sets = new HashSet<>();
        int own = 0;
        for (int v = 0; v < size(); v++) {
            int set = 0;
            for (int u = 0; u < size(); u++) {
                if (reached(ways, v, Set.of()).contains(u) && reached(ways, u, Set.of()).contains(v)) set |= 1 << u;
            }
            sets.add(set);
            if (v == crossing) own = set;
        }
        tell(sets.size());
        return own;
    }

    // ---- by chance

    /** A fraction in lowest terms. */
    private record Part(BigInteger upper, BigInteger lower) {
        static Part of(long upper, long lower) {
            return of(BigInteger.valueOf(upper), BigInteger.valueOf(lower));
        }

        static Part of(BigInteger upper, BigInteger lower) {
            BigInteger common = upper.gcd(lower);
            if (lower.signum() < 0) common = common.negate();
            return new Part(upper.divide(common), lower.divide(common));
        }

        Part plus(Part other) {
            return of(upper.multiply(other.lower).add(other.upper.multiply(lower)), lower.multiply(other.lower));
        }

        Part times(Part other) {
            return of(upper.multiply(other.upper), lower.multiply(other.lower));
        }

        Part by(Part other) {
            return of(upper.multiply(other.lower), lower.multiply(other.upper));
        }

        boolean isNothing() {
            return upper.signum() == 0;
        }
    }

    /** Solves x(v) = first(v) + the mean of x where ways from v go; x of those that end is theirs. */
    private Part[] solve(boolean[] ends, Part[] first) {
        int n = size();
        Part[][] rows = new Part[n][n + 1];
        for (int v = 0; v < n; v++) {
            for (int u = 0; u < n; u++) rows[v][u] = Part.of(u == v ? 1 : 0, 1);
            rows[v][n] = first[v];
            if (ends[v]) continue;
            for (int goal : ways.get(v)) rows[v][goal] = rows[v][goal].plus(Part.of(-1, ways.get(v).size()));
        }
        for (int c = 0; c < n; c++) {
            int r = c;
            while (rows[r][c].isNothing()) r++;
            Part[] swap = rows[r];
            rows[r] = rows[c];
            rows[c] = swap;
            for (int other = 0; other < n; other++) {
                if (other == c || rows[other][c].isNothing()) continue;
                Part factor = rows[other][c].by(rows[c][c]).times(Part.of(-1, 1));
                for (int i = c; i <= n; i++) rows[other][i] = rows[other][i].plus(rows[c][i].times(factor));
            }
        }
        Part[] solved = new Part[n];
        for (int v = 0; v < n; v++) solved[v] = rows[v][n].by(rows[v][v]);
        return solved;
    }

    private void tell(Part part) {
        tell(part.upper.longValueExact(), part.lower.longValueExact());
    }

    public int mean(int crossing) {
        if (!isOut(crossing)) return -1;
        boolean[] ends = new boolean[size()];
        Part[] first = new Part[size()];
        for (int v = 0; v < size(); v++) {
            ends[v] = v == 0;
            first[v] = Part.of(v == 0 ? 0 : 1, 1);
        }
        Part mean = solve(ends, first)[crossing];
        tell(mean);
        return mean.upper.divide(mean.lower).intValueExact();
    }

    public int meets(int crossing, int to) {
        if (!isOut(crossing) || !isOut(to)) return -1;
        boolean[] ends = new boolean[size()];
        Part[] first = new Part[size()];
        for (int v = 0; v < size(); v++) {
            ends[v] = v == 0 || v == to;
            first[v] = Part.of(v == to ? 1 : 0, 1);
        }
        tell(solve(ends, first)[crossing]);
        return 0;
    }

    public int odds(int crossing, int n, int to) {
        if (!isOut(crossing) || !isCrossing(to) || n < 0 || n > 8) return -1;
        Part[] at = new Part[size()];
        for (int v = 0; v < size(); v++) at[v] = Part.of(v == crossing ? 1 : 0, 1);
        for (int gone = 0; gone < n; gone++) {
            Part[] next = new Part[size()];
            Arrays.fill(next, Part.of(0, 1));
            next[0] = at[0];
            for (int v = 1; v < size(); v++) {
                for (int goal : ways.get(v)) next[goal] = next[goal].plus(at[v].by(Part.of(ways.get(v).size(), 1)));
            }
            at = next;
        }
        tell(at[to]);
        return 0;
    }

    // ---- crowds that come back

    private int able(State at) {
        int able = 0;
        for (int v = 1; v < size(); v++) {
            if (at.crowd[v] >= ways.get(v).size()) able |= 1 << v;
        }
        return able;
    }

    private int walkers(State at) {
        return Arrays.stream(at.crowd).sum();
    }

    public int ready() {
        int able = able(now);
        tell(Integer.bitCount(able), walkers(now));
        return able;
    }

    private State calmed(int[] crowd) {
        State at = new State();
        at.crowd = crowd.clone();
        if (calm(at, new int[8]) < 0) throw new Stopped(-3);
        return at;
    }

    private int[] unitCrowd() {
        int[] twice = new int[8];
        for (int v = 1; v < size(); v++) twice[v] = 2 * (ways.get(v).size() - 1);
        int[] calm = calmed(twice).crowd;
        int[] less = new int[8];
        for (int v = 1; v < size(); v++) less[v] = twice[v] - calm[v];
        return calmed(less).crowd;
    }

    public int unit() {
        try {
            int[] unit = unitCrowd();
            tellFrom1(unit);
            return Arrays.stream(unit).sum();
        } catch (Stopped stopped) {
            return stopped.answer;
        }
    }

    public int returns() {
        if (able(now) != 0) return -2;
        try {
            int[] sum = unitCrowd();
            for (int v = 1; v < size(); v++) sum[v] += now.crowd[v];
            int[] then = calmed(sum).crowd;
            tellFrom1(then);
            return Arrays.equals(then, now.crowd) ? 1 : 0;
        } catch (Stopped stopped) {
            return stopped.answer;
        }
    }

    public int joins(int i) {
        if (i < 0 || i > 2) return -1;
        if (kept[i] == null) return -2;
        State sum = now.copy();
        for (int v = 1; v < size(); v++) sum.crowd[v] += kept[i].crowd[v];
        int all = calm(sum, new int[8]);
        if (all >= 0) tellFrom1(sum.crowd);
        return all;
    }

    public int recurs(int crossing) {
        if (!isOut(crossing)) return -1;
        if (able(now) != 0) return -2;
        State at = now.copy();
        int bursts = 0;
        for (int come = 1; come <= 500; come++) {
            at.crowd[crossing]++;
            int all = calm(at, new int[8]);
            if (all < 0) return -3;
            bursts += all;
            if (Arrays.equals(at.crowd, now.crowd)) {
                tell(bursts);
                return come;
            }
        }
        return -2;
    }

    public int trigger() {
        if (able(now) != 0) return -2;
        int[] often = new int[8];
        for (int v = 1; v < size(); v++) {
            State at = now.copy();
            at.crowd[v]++;
            often[v] = calm(at, new int[8]);
            if (often[v] < 0) return -3;
        }
        int most = Arrays.stream(often).max().getAsInt();
        tell(most);
        for (int v = 1; ; v++) {
            if (often[v] == most) return v;
        }
    }

    // ---- which way a post pointed

    public int seen(int crossing, int n, int at) {
        if (!isOut(crossing) || !isCrossing(at) || n < 0 || n > 20 || sights.size() == 10) return -1;
        sights.add(new int[] {crossing, n, at});
        return sights.size();
    }

    public int forget() {
        int many = sights.size();
        sights.clear();
        return many;
    }

    private int placeIf(int crossing, int k, int from, int n) {
        State at = now.copy();
        at.post[crossing] = k;
        List<Integer> track = guest(at, rule, from, n);
        return track.get(track.size() - 1);
    }

    private List<Integer> numbers(int crossing) {
        List<Integer> numbers = new ArrayList<>();
        for (int k = 0; k < ways.get(crossing).size(); k++) {
            boolean fits = true;
            for (int[] sight : sights) fits &= placeIf(crossing, k, sight[0], sight[1]) == sight[2];
            if (fits) numbers.add(k);
        }
        return numbers;
    }

    public int guess(int crossing) {
        if (!isOut(crossing)) return -1;
        List<Integer> numbers = numbers(crossing);
        int bits = 0;
        for (int k : numbers) bits |= 1 << k;
        tell(numbers.size(), numbers.contains(now.post[crossing]) ? 1 : 0);
        return bits;
    }

    public int looks(int crossing) {
        if (!isOut(crossing)) return -1;
        List<Integer> numbers = numbers(crossing);
        if (numbers.isEmpty()) return -2;
        int best = -1;
        int least = 99;
        for (int question = 100; question < 100 * size(); question++) {
            if (question % 100 > 20) continue;
            Map<Integer, Integer> left = new HashMap<>();
            for (int k : numbers) left.merge(placeIf(crossing, k, question / 100, question % 100), 1, Integer::sum);
            int most = left.values().stream().max(Integer::compare).get();
            if (most < least) {
                least = most;
                best = question;
            }
        }
        tell(least);
        return best;
    }

    // ---- which one it was

    private static boolean isSaying(int what, int v) {
        if (what == 0) return v >= 1 && v <= 4;
        if (what == 1) return v >= 0 && v <= 9;
        if (what == 2) return v >= 0 && v <= 7;
        return what == 3 && v >= 1 && v <= 7;
    }

    private boolean isSo(int crossing, int what, int v) {
        int number = post(crossing, new int[] {0, 3, 2, 5}[what]);
        return what == 1 ? number >= v : number == v;
    }

    public int heard(int what, int v) {
        if (!isSaying(what, v) || rumours.size() == 12) return -1;
        rumours.add(new int[] {what, v});
        return rumours.size();
    }

    public int denies() {
        int many = rumours.size();
        rumours.clear();
        return many;
    }

    private List<Integer> fitting() {
        List<Integer> fitting = new ArrayList<>();
        for (int v = 1; v < size(); v++) {
            boolean fits = true;
            for (int[] rumour : rumours) fits &= isSo(v, rumour[0], rumour[1]);
            if (fits) fitting.add(v);
        }
        return fitting;
    }

    public int fits() {
        int bits = 0;
        for (int v : fitting()) bits |= 1 << v;
        tell(Integer.bitCount(bits));
        return bits;
    }

    public int asks() {
        List<Integer> fitting = fitting();
        if (fitting.isEmpty()) return -2;
        int best = -1;
        int least = 99;
        for (int what = 0; what < 4; what++) {
            for (int v = 0; v < 10; v++) {
                if (!isSaying(what, v)) continue;
                int yes = 0;
                int no = 0;
                for (int crossing : fitting) {
                    if (isSo(crossing, what, v)) yes++;
                    else no++;
                }
                if (Math.max(yes, no) < least) {
                    least = Math.max(yes, no);
                    best = 10 * what + v;
                }
            }
        }
        tell(least);
        return best;
    }

    // ---- a game, laws, waiting, years

    private static final Map<Integer, Boolean> WINS = new HashMap<>();

    private static List<int[]> moves(int a, int b) {
        List<int[]> moves = new ArrayList<>();
        for (int x = 0; x <= a; x++) {
            for (int y = 0; y <= b; y++) {
                if (x + y > 0 && (x == 0 || y == 0 || x == y)) moves.add(new int[] {x, y});
            }
        }
        return moves;
    }

    private static boolean wins(int a, int b) {
        Boolean known = WINS.get(100 * a + b);
        if (known != null) return known;
        boolean wins = false;
        for (int[] move : moves(a, b)) wins |= !wins(a - move[0], b - move[1]);
        WINS.put(100 * a + b, wins);
        return wins;
    }

    public int crowds(int a, int b) {
        if (a < 0 || a > 30 || b < 0 || b > 30) return -1;
        tell();
        for (int[] move : moves(a, b)) {
            if (wins(a - move[0], b - move[1])) continue;
            tell(move[0], move[1]);
            return 1;
        }
        return 0;
    }

    public int law() {
        String told = text;
        text = "";
        int fails = ruleFailsAt(told);
        if (fails >= 0) return -10000 - fails;
        int[] long2 = new int[2];
        for (int i = 0; i < 2; i++) {
            List<Integer> track = guest(now.copy(), i == 0 ? told : rule, size() - 1, 999);
            long2[i] = track.get(track.size() - 1) == 0 ? track.size() - 1 : 1000;
        }
        tell(long2[0], long2[1]);
        return long2[0] - long2[1];
    }

    private static int cost(int own, int other, int v) {
        int cost = own;
        if (own < v) cost += 6;
        if (own > other) cost += 2;
        return cost;
    }

    public int waits(int v) {
        if (v < 0 || v > 9) return -1;
        List<int[]> rests = new ArrayList<>();
        for (int x = 0; x <= 9; x++) {
            for (int y = 0; y <= 9; y++) {
                boolean rest = true;
                for (int z = 0; z <= 9; z++) rest &= cost(z, y, v) >= cost(x, y, v) && cost(z, x, v) >= cost(y, x, v);
                if (rest) rests.add(new int[] {x, y});
            }
        }
        tell();
        if (!rests.isEmpty()) tell(rests.get(0)[0], rests.get(0)[1]);
        return rests.size();
    }

    public int years(int seed, int n) {
        if (n < 1 || n > 60) return -1;
        State at = now.copy();
        int came = 0;
        int steps = 0;
        int r = seed;
        for (int i = 0; i < n; i++) {
            r = r * 1103515245 + 12345;
            int what = (int) (Integer.toUnsignedLong(r) / 65536 % 4);
            r = r * 1103515245 + 12345;
            int v = (int) (Integer.toUnsignedLong(r) / 65536 % (size() - 1)) + 1;
            if (what <= 1 && at.crowd[v] + 1 <= 99) at.crowd[v]++;
            if (what == 2 && at.crowd[v] >= 1) {
                steps++;
                if (step(at, rule, v) == 0) came++;
            }
            if (what == 3 && at.crowd[v] >= ways.get(v).size()) {
                burst(at, v);
                for (int to : ways.get(v)) came += to == 0 ? 1 : 0;
            }
        }
        tell(walkers(at), steps);
        return came;
    }

    // ---- kept

    public boolean keep(int i) {
        if (i < 0 || i > 2) return false;
        kept[i] = now.copy();
        return true;
    }

    public boolean again(int i) {
        if (i < 0 || i > 2 || kept[i] == null) return false;
        now = kept[i].copy();
        undoable.clear();
        return true;
    }

    public int count(int what) {
        switch (what) {
            case 0: return size();
            case 1: return ways.stream().mapToInt(List::size).sum();
            case 2: return now.housed;
            case 3: return now.steps;
            case 4: return walkers(now);
            case 5: return bitsOf(now.crowd);
            case 6: return sights.size();
            case 7: return rumours.size();
            case 8: return undoable.size();
            case 9: return row.size();
            case 10: return text.length();
            default: return -100;
        }
    }

    private static int bitsOf(int[] crowd) {
        int bits = 0;
        for (int v = 0; v < crowd.length; v++) bits |= crowd[v] != 0 ? 1 << v : 0;
        return bits;
    }

    public long row(int i) {
        if (i < 0 || i >= row.size()) throw new NoSuchElementException();
        return row.get(i);
    }
}
