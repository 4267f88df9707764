import java.util.NoSuchElementException;

/** Posts that turn on: walkers on a moor, as ../shared/DOC.md tells. One object is one moor. */
public final class TurningPosts {
    public static final int NONE = -1;

    private static final int NOT_SO = -2;
    private static final int ENDLESS = -3;

    private static final int MOST_CROSSINGS = 8;
    private static final int MOST_WAYS = 4;
    private static final int MOST_SIGNS = 80;
    private static final int LONGEST_RULE = 40;
    private static final int DEEPEST = 4;
    private static final int LONGEST_DAY = 60;
    private static final int LONGEST_WALK = 999;
    private static final int MOST_ROUND = 300;
    private static final int MOST_RECURS = 500;
    private static final int MOST_BURSTS = 9999;
    private static final int MOST_HOUSED = 9999;
    private static final int MOST_STEPS = 99999;
    private static final int FULL_CROWD = 99;
    private static final int MOST_TOLD_TREE = 999;
    private static final int LONGEST_LOOK = 20;
    private static final int LOOKS_EACH = LONGEST_LOOK + 1;
    private static final int LARGEST_GAME = 30;
    private static final int LONGEST_WAIT = 9;
    private static final int MOST_TRIES = 1000000;

    private final Signs text = new Signs();
    private final Told told = new Told();
    private final Paths paths = new Paths();
    private final Paths draftPaths = new Paths();
    private final Turner turner = new Turner();
    private final Turner draftTurner = new Turner();
    private final Moor now = new Moor();
    private final Moor trial = new Moor();
    private final Moor before = new Moor();
    private final Past past = new Past();
    private final Sand sand = new Sand();
    private final Chances chances = new Chances();
    private final Sights sights = new Sights();
    private final Hearsay hearsay = new Hearsay();
    private final int[] leaves = new int[MOST_CROSSINGS];
    private final int[] picks = new int[MOST_CROSSINGS];
    private final int[] fewest = new int[MOST_CROSSINGS];
    private final int[] places = new int[MOST_WAYS * LOOKS_EACH];
    private final int[] coldPartners = new int[LARGEST_GAME + 1];

    public TurningPosts() {
        paths.startAnew();
        fillColdPartners(coldPartners);
    }

    // ---- the net

    public int sign(int v) {
        if (text.size() + 4 > MOST_SIGNS) return NONE;
        text.add(v >>> 24);
        text.add((v >>> 16) & 255);
        text.add((v >>> 8) & 255);
        text.add(v & 255);
        return text.size();
    }

    public boolean end(int n) {
        if (n < 0 || n > text.size()) return false;
        text.cut(n);
        return true;
    }

    public int net() {
        int answer = draftPaths.read(text);
        text.cut(0);
        if (answer < 0) return answer;
        paths.copyFrom(draftPaths);
        now.clear();
        past.forgetAll();
        sights.clear();
        hearsay.clear();
        return answer;
    }

    public int rule() {
        int answer = draftTurner.read(text);
        text.cut(0);
        if (answer < 0) return answer;
        turner.copyFrom(draftTurner);
        return 0;
    }

    public int post(int crossing, int what) throws NoSuchElementException {
        if (!paths.has(crossing) || what < 0 || what > 5) throw new NoSuchElementException();
        if (crossing == 0) return what == 3 ? now.housed : 0;
        switch (what) {
            case 0: return paths.degree(crossing);
            case 1: return now.posts[crossing];
            case 2: return paths.goal(crossing, now.posts[crossing]);
            case 3: return now.crowds[crossing];
            case 4: return turnNow(crossing);
            default: return paths.far(crossing);
        }
    }

    private int turnNow(int v) {
        if (!paths.hasPost(v)) return 0;
        return turner.turn(now, v, paths.degree(v), paths.goal(v, now.posts[v]));
    }

    public int way(int crossing, int k) throws NoSuchElementException {
        if (!paths.hasWay(crossing, k)) throw new NoSuchElementException();
        return paths.goal(crossing, k);
    }

    public int sheet(int kind, int n, int f, int step) {
        if (kind < 0 || kind > 3 || n >= MOST_CROSSINGS) return NONE;
        if (kind != 3 && n < 0) return NOT_SO;
        int entries = kind == 3 ? 0 : n;
        for (int v = 1; v < MOST_CROSSINGS; v++) {
            boolean hasEntry = v <= entries && paths.hasPost(v);
            now.crowds[v] = hasEntry ? sheetEntry(kind, f + (v - 1) * step) : 0;
        }
        return kind == 3 ? ENDLESS : now.walkers();
    }

    private static int sheetEntry(int kind, int value) {
        int entry = value;
        if (kind == 0) entry = (byte) value;
        if (kind == 1) entry = (short) value;
        return Math.max(0, Math.min(9, entry));
    }

    // ---- walkers, crowds

    public int comes(int crossing, int n) {
        before.copyFrom(now);
        return kept(actComes(crossing, n));
    }

    public int goes(int crossing) {
        before.copyFrom(now);
        return kept(actGoes(crossing));
    }

    public int walks(int crossing) {
        before.copyFrom(now);
        return kept(actWalks(crossing));
    }

    public int bursts(int crossing) {
        before.copyFrom(now);
        return kept(actBursts(crossing));
    }

    public int calms() {
        before.copyFrom(now);
        return kept(actCalms());
    }

    public int points(int crossing, int k) {
        before.copyFrom(now);
        return kept(actPoints(crossing, k));
    }

    public int day() {
        int fault = checkDay();
        int signs = fault < 0 ? 0 : text.size();
        int done = 0;
        int refused = 0;
        before.copyFrom(now);
        for (int p = 0; p < signs && refused == 0; p++) {
            if (!isAct(text.at(p))) continue;
            int answer = act(text.at(p), text.at(p + 1) - '0', text.at(p + 2) - '0');
            if (answer < 0) refused = 1;
            else done++;
        }
        text.cut(0);
        if (fault < 0) return fault;
        if (done > 0) past.push(before);
        told.tell(refused, now.housed);
        return done;
    }

    public int undo() {
        if (!past.takeBack(now)) return NONE;
        return past.size();
    }

    /** An act that was done can be undone: its answer. */
    private int kept(int answer) {
        if (answer >= 0) past.push(before);
        return answer;
    }

    /** One act, as a day's text names it; not yet kept for undo(), so that a day can be kept as one. */
    private int act(int kind, int crossing, int n) {
        switch (kind) {
            case 'c': return actComes(crossing, n);
            case 'g': return actGoes(crossing);
            case 'w': return actWalks(crossing);
            case 'b': return actBursts(crossing);
            case 'p': return actPoints(crossing, n);
            default: return actCalms();
        }
    }

    private int actComes(int crossing, int n) {
        if (!paths.hasPost(crossing) || n < 1 || n > FULL_CROWD) return NONE;
        if (now.crowds[crossing] + n > FULL_CROWD) return NOT_SO;
        now.crowds[crossing] += n;
        return now.crowds[crossing];
    }

    private int actGoes(int crossing) {
        if (!paths.hasPost(crossing)) return NONE;
        if (now.crowds[crossing] < 1) return NOT_SO;
        int to = stepOf(now, crossing);
        told.tell(now.posts[crossing], now.crowds[crossing]);
        return to;
    }

    private int actWalks(int crossing) {
        if (!paths.hasPost(crossing)) return NONE;
        if (now.crowds[crossing] < 1) return NOT_SO;
        trial.copyFrom(now);
        trial.crowds[crossing]--;
        int gone = walkHome(trial, turner, crossing);
        if (gone < 0) return gone;
        now.copyFrom(trial);
        int through = 1;
        for (int v = 1; v < MOST_CROSSINGS; v++) {
            if (leaves[v] > 0) through |= 1 << v;
        }
        told.tell(through);
        return gone;
    }

    private int actBursts(int crossing) {
        if (!paths.hasPost(crossing)) return NONE;
        if (!canBurst(now, crossing)) return NOT_SO;
        burst(now, crossing);
        return now.crowds[crossing];
    }

    private int actCalms() {
        sand.load(now.crowds);
        int times = sand.calm(paths);
        if (times < 0) return times;
        for (int v = 1; v < paths.crossings(); v++) {
            now.crowds[v] = sand.heap[v];
            now.house(sand.times[v] * paths.waysTo(v, 0));
        }
        told.tellRow(sand.times, paths.crossings());
        return times;
    }

    private int actPoints(int crossing, int k) {
        if (!paths.hasWay(crossing, k)) return NONE;
        int old = now.posts[crossing];
        if (old == k) return NOT_SO;
        now.posts[crossing] = k;
        return 10 + old;
    }

    /** 0 if THE TEXT tells a day, else -1 - p of the sign that can't stand. */
    private int checkDay() {
        int kind = 0;
        int left = 0;
        int most = Math.min(text.size(), LONGEST_DAY);
        for (int p = 0; p < most; p++) {
            int sign = text.at(p);
            if (left == 0) {
                if (!isAct(sign)) return -1 - p;
                kind = sign;
                left = signsOf(kind) - 1;
            } else {
                boolean isSecond = left == 1 && signsOf(kind) == 3;
                if (!(isSecond ? isSecondDigit(kind, sign) : isDigit(sign))) return -1 - p;
                left--;
            }
        }
        if (text.size() > LONGEST_DAY) return -1 - LONGEST_DAY;
        return left > 0 ? -1 - text.size() : 0;
    }

    private static boolean isAct(int sign) {
        switch (sign) {
            case 'c': case 'g': case 'w': case 'b': case 'a': case 'p': return true;
            default: return false;
        }
    }

    /** Of how many signs an act is told. */
    private static int signsOf(int kind) {
        switch (kind) {
            case 'g': case 'w': case 'b': return 2;
            case 'c': case 'p': return 3;
            default: return 1;
        }
    }

    private static boolean isSecondDigit(int kind, int sign) {
        return kind == 'c' ? sign >= '1' && sign <= '9' : sign >= '0' && sign <= '3';
    }

    private static boolean isDigit(int sign) {
        return sign >= '0' && sign <= '9';
    }

    /** A STEP of one of the CROWD at v: where he comes to. */
    private int stepOf(Moor moor, int v) {
        if (!paths.hasPost(v)) return 0;
        moor.crowds[v]--;
        int to = stride(moor, turner, v);
        if (paths.hasPost(to)) moor.crowds[to]++;
        return to;
    }

    /** A STEP of one who is in no CROWD: where he comes to. */
    private int stride(Moor moor, Turner law, int v) {
        int degree = paths.degree(v);
        if (degree < 1) return 0;
        int to = paths.goal(v, moor.posts[v]);
        int turn = law.turn(moor, v, degree, to);
        moor.posts[v] = (moor.posts[v] + turn) % degree;
        if (to == 0) moor.house(1);
        moor.steps = Math.min(MOST_STEPS, moor.steps + 1);
        return to;
    }

    /** One who is in no CROWD walks to THE INN: in how many STEPS; how often he left each is in leaves. */
    private int walkHome(Moor moor, Turner law, int from) {
        for (int v = 0; v < leaves.length; v++) leaves[v] = 0;
        int at = from;
        for (int gone = 1; gone <= LONGEST_WALK; gone++) {
            if (!paths.hasPost(at)) return ENDLESS;
            leaves[at]++;
            at = stride(moor, law, at);
            if (at == 0) return gone;
        }
        return ENDLESS;
    }

    private boolean canBurst(Moor moor, int v) {
        return paths.hasPost(v) && moor.crowds[v] >= paths.degree(v);
    }

    /** The CROWD at v BURSTS: how many of it come to THE INN. */
    private int burst(Moor moor, int v) {
        if (!paths.hasPost(v)) return 0;
        int degree = paths.degree(v);
        int home = paths.waysTo(v, 0);
        moor.crowds[v] -= degree;
        for (int k = 0; k < degree; k++) {
            int to = paths.goal(v, k);
            if (paths.hasPost(to)) moor.crowds[to]++;
        }
        moor.house(home);
        return home;
    }

    // ---- where walkers come to

    public int later(int crossing, int n) {
        if (!paths.hasPost(crossing) || n < 0 || n > 99) return NONE;
        trial.copyFrom(now);
        int at = crossing;
        int gone = 0;
        int visits = 1;
        while (gone < n && at != 0) {
            at = stride(trial, turner, at);
            gone++;
            if (at == crossing) visits++;
        }
        told.tell(gone, visits);
        return at;
    }

    public int home(int crossing) {
        if (!paths.hasPost(crossing)) return NONE;
        trial.copyFrom(now);
        int gone = walkHome(trial, turner, crossing);
        if (gone >= 0) told.tellRow(leaves, paths.crossings());
        return gone;
    }

    public int pass(int crossing, int to, int n) {
        if (!paths.hasPost(crossing) || !paths.hasPost(to) || n < 1 || n > 60) return NONE;
        trial.copyFrom(now);
        int through = 0;
        int all = 0;
        for (int walker = 0; walker < n; walker++) {
            int gone = walkHome(trial, turner, crossing);
            if (gone < 0) return gone;
            all += gone;
            if (leaves[to] > 0) through++;
        }
        told.tell(all);
        return through;
    }

    public int round(int crossing) {
        if (!paths.hasPost(crossing)) return NONE;
        trial.copyFrom(now);
        int all = 0;
        for (int walkers = 1; walkers <= MOST_ROUND; walkers++) {
            int gone = walkHome(trial, turner, crossing);
            if (gone < 0) return gone;
            all += gone;
            if (trial.hasPostsOf(now)) {
                told.tell(all);
                return walkers;
            }
        }
        return NOT_SO;
    }

    public int follows(int crossing) {
        if (!paths.hasPost(crossing)) return NONE;
        int through = trackOf(crossing);
        int comesHome = through & 1;
        // Behind each WAY on the track he is somewhere new, but for the last one of a ring.
        int gone = Integer.bitCount(through) - comesHome;
        told.tell(comesHome, gone);
        return through;
    }

    /** The CROSSINGS (bits) of the track by POSTS that do not turn. */
    private int trackOf(int from) {
        int through = 0;
        int at = from;
        for (int gone = 0; gone < MOST_CROSSINGS && (through & (1 << at)) == 0; gone++) {
            through |= 1 << at;
            if (paths.hasPost(at)) at = paths.goal(at, now.posts[at]);
        }
        return through;
    }

    // ---- trees

    public int tree() {
        int comeHome = 0;
        int rings = 0;
        for (int v = 1; v < paths.crossings(); v++) {
            if ((trackOf(v) & 1) == 1) comeHome++;
            if (isFirstOfRing(v)) rings++;
        }
        told.tell(comeHome == paths.crossings() - 1 ? 1 : 0, rings);
        return comeHome;
    }

    /** If v lies in a ring of POSTS and no CROSSING of it has a lower number. */
    private boolean isFirstOfRing(int v) {
        int at = paths.goal(v, now.posts[v]);
        for (int gone = 1; gone < MOST_CROSSINGS && at > v; gone++) {
            at = paths.goal(at, now.posts[at]);
        }
        return at == v;
    }

    public int trees() {
        int settings = 1;
        for (int v = 1; v < paths.crossings(); v++) settings *= paths.degree(v);
        told.tell(settings);
        return chances.treesWith(paths, picks, 0);
    }

    public int plants(int n) {
        if (n < 0 || n > MOST_TOLD_TREE) return NONE;
        if (n >= chances.treesWith(paths, picks, 0)) return NOT_SO;
        int left = n;
        for (int v = 1; v < paths.crossings(); v++) {
            picks[v] = 0;
            int trees = chances.treesWith(paths, picks, v);
            while (left >= trees && picks[v] < paths.degree(v) - 1) {
                left -= trees;
                picks[v]++;
                trees = chances.treesWith(paths, picks, v);
            }
        }
        told.tellRow(picks, paths.crossings());
        return 0;
    }

    public int grown() {
        int ahead = 0;
        for (int v = 1; v < paths.crossings(); v++) {
            for (int k = 0; k < now.posts[v]; k++) {
                picks[v] = k;
                ahead += chances.treesWith(paths, picks, v);
            }
            picks[v] = now.posts[v];
        }
        return chances.treesWith(paths, picks, paths.crossings() - 1) == 1 ? ahead : NOT_SO;
    }

    public int mends() {
        for (int most = 0; most < paths.crossings(); most++) {
            if (mendsWith(most)) {
                told.tellRow(picks, paths.crossings());
                return most;
            }
        }
        return NOT_SO;
    }

    /** Seeks the least row of POSTS that are A TREE, at most so many set anew; it is in picks. */
    private boolean mendsWith(int most) {
        int last = paths.crossings() - 1;
        int v = 1;
        picks[1] = NONE;
        for (int tries = 0; tries < MOST_TRIES && v >= 1 && v <= last; tries++) {
            picks[v]++;
            if (picks[v] >= paths.degree(v)) {
                v--;
            } else if (changedUpTo(v) <= most && !closesRing(v)) {
                if (v == last) return true;
                v++;
                picks[v] = NONE;
            }
        }
        return false;
    }

    private int changedUpTo(int last) {
        int changed = 0;
        for (int v = 1; v <= last; v++) {
            if (picks[v] != now.posts[v]) changed++;
        }
        return changed;
    }

    /** If the pick of v makes a ring with those of lower numbers (which make none). */
    private boolean closesRing(int v) {
        int at = paths.goal(v, picks[v]);
        for (int gone = 1; gone < MOST_CROSSINGS && at > 0 && at < v; gone++) {
            at = paths.goal(at, picks[at]);
        }
        return at == v;
    }

    // ---- ways, by fewest WAYS

    public int route(int from, int to) {
        if (!paths.has(from) || !paths.has(to)) return NONE;
        paths.measure(to, fewest);
        int all = fewest[from];
        if (all < 0) return NOT_SO;
        told.tell();
        int at = from;
        for (int left = all - 1; left >= 0; left--) {
            at = leastNext(at, left);
            told.add(at);
        }
        return all;
    }

    /** The least CROSSING one WAY on from which so many WAYS are left. */
    private int leastNext(int at, int left) {
        for (int v = 0; v < paths.crossings(); v++) {
            if (fewest[v] == left && paths.waysTo(at, v) > 0) return v;
        }
        return 0;
    }

    public int gates(int crossing) {
        if (!paths.hasPost(crossing)) return NONE;
        int gates = 0;
        for (int v = 1; v < paths.crossings(); v++) {
            if (v != crossing && (paths.reach(crossing, v) & 1) == 0) gates |= 1 << v;
        }
        told.tell(Integer.bitCount(gates));
        return gates;
    }

    public int parish(int crossing) {
        if (!paths.has(crossing)) return NONE;
        int parishes = 0;
        for (int v = 0; v < paths.crossings(); v++) {
            // Each is counted at its lowest CROSSING, with none below it.
            if ((paths.parishOf(v) & ((1 << v) - 1)) == 0) parishes++;
        }
        told.tell(parishes);
        return paths.parishOf(crossing);
    }

    // ---- by chance

    public int mean(int crossing) {
        if (!paths.hasPost(crossing)) return NONE;
        chances.solve(paths, crossing, 0);
        told.tell(chances.upper, chances.lower);
        return chances.lower > 0 ? (int) (chances.upper / chances.lower) : 0;
    }

    public int meets(int crossing, int to) {
        if (!paths.hasPost(crossing) || !paths.hasPost(to)) return NONE;
        chances.solve(paths, crossing, to);
        told.tell(chances.upper, chances.lower);
        return 0;
    }

    public int odds(int crossing, int n, int to) {
        if (!paths.hasPost(crossing) || !paths.has(to) || n < 0 || n > 8) return NONE;
        chances.spread(paths, crossing, n, to);
        told.tell(chances.upper, chances.lower);
        return 0;
    }

    // ---- crowds that come back

    public int ready() {
        int able = 0;
        for (int v = 1; v < paths.crossings(); v++) {
            if (canBurst(now, v)) able |= 1 << v;
        }
        told.tell(Integer.bitCount(able), now.walkers());
        return able;
    }

    public int unit() {
        int walkers = sand.makeUnit(paths);
        if (walkers >= 0) told.tellRow(sand.neutral, paths.crossings());
        return walkers;
    }

    public int returns() {
        if (someCanBurst()) return NOT_SO;
        if (sand.makeUnit(paths) < 0) return ENDLESS;
        sand.load(now.crowds);
        sand.pour(sand.neutral);
        if (sand.calm(paths) < 0) return ENDLESS;
        told.tellRow(sand.heap, paths.crossings());
        return sand.holds(now.crowds) ? 1 : 0;
    }

    public int joins(int i) {
        if (!past.isNumber(i)) return NONE;
        if (!past.bring(i, trial)) return NOT_SO;
        sand.load(now.crowds);
        sand.pour(trial.crowds);
        int times = sand.calm(paths);
        if (times >= 0) told.tellRow(sand.heap, paths.crossings());
        return times;
    }

    public int recurs(int crossing) {
        if (!paths.hasPost(crossing)) return NONE;
        if (someCanBurst()) return NOT_SO;
        sand.load(now.crowds);
        int all = 0;
        for (int come = 1; come <= MOST_RECURS; come++) {
            sand.heap[crossing]++;
            int times = sand.calm(paths);
            if (times < 0) return times;
            all += times;
            if (sand.holds(now.crowds)) {
                told.tell(all);
                return come;
            }
        }
        return NOT_SO;
    }

    public int trigger() {
        if (someCanBurst()) return NOT_SO;
        int best = 0;
        int most = NONE;
        for (int v = 1; v < paths.crossings(); v++) {
            sand.load(now.crowds);
            sand.heap[v]++;
            int times = sand.calm(paths);
            if (times < 0) return times;
            if (times > most) {
                most = times;
                best = v;
            }
        }
        told.tell(most);
        return best;
    }

    private boolean someCanBurst() {
        for (int v = 1; v < paths.crossings(); v++) {
            if (canBurst(now, v)) return true;
        }
        return false;
    }

    // ---- which way a post pointed

    public int seen(int crossing, int n, int at) {
        if (!paths.hasPost(crossing) || !paths.has(at) || n < 0 || n > LONGEST_LOOK) return NONE;
        return sights.add(crossing, n, at) ? sights.size() : NONE;
    }

    public int forget() {
        int size = sights.size();
        sights.clear();
        return size;
    }

    public int guess(int crossing) {
        if (!paths.hasPost(crossing)) return NONE;
        int numbers = possibleNumbers(crossing);
        told.tell(Integer.bitCount(numbers), (numbers >> now.posts[crossing]) & 1);
        return numbers;
    }

    public int looks(int crossing) {
        if (!paths.hasPost(crossing)) return NONE;
        int numbers = possibleNumbers(crossing);
        if (numbers == 0) return NOT_SO;
        int best = 0;
        int least = MOST_WAYS + 1;
        for (int from = 1; from < paths.crossings(); from++) {
            fillPlaces(crossing, numbers, from);
            for (int n = 0; n <= LONGEST_LOOK; n++) {
                int left = mostAtOnePlace(numbers, n);
                if (left < least) {
                    least = left;
                    best = 100 * from + n;
                }
            }
        }
        told.tell(least);
        return best;
    }

    /** Numbers (bits) that the POST of a CROSSING can have by what was seen. */
    private int possibleNumbers(int crossing) {
        int numbers = 0;
        for (int k = 0; k < paths.degree(crossing); k++) {
            if (fitsSights(crossing, k)) numbers |= 1 << k;
        }
        return numbers;
    }

    private boolean fitsSights(int crossing, int k) {
        if (!paths.hasWay(crossing, k)) return false;
        for (int i = 0; i < sights.size(); i++) {
            trial.copyFrom(now);
            trial.posts[crossing] = k;
            int at = sights.start(i);
            for (int gone = 0; gone < sights.steps(i) && at != 0; gone++) {
                at = stride(trial, turner, at);
            }
            if (at != sights.place(i)) return false;
        }
        return true;
    }

    /** Where one who starts at from is behind 0 .. 20 STEPS, for each of the numbers of a POST. */
    private void fillPlaces(int crossing, int numbers, int from) {
        for (int k = 0; k < MOST_WAYS; k++) {
            if (!paths.hasWay(crossing, k) || (numbers >> k & 1) == 0) continue;
            trial.copyFrom(now);
            trial.posts[crossing] = k;
            int at = from;
            for (int n = 0; n <= LONGEST_LOOK; n++) {
                places[k * LOOKS_EACH + n] = at;
                if (at != 0) at = stride(trial, turner, at);
            }
        }
    }

    private int mostAtOnePlace(int numbers, int n) {
        int most = 0;
        for (int k = 0; k < MOST_WAYS; k++) {
            int same = 0;
            for (int other = 0; other < MOST_WAYS; other++) {
                boolean bothLeft = (numbers >> k & 1) == 1 && (numbers >> other & 1) == 1;
                if (bothLeft && places[k * LOOKS_EACH + n] == places[other * LOOKS_EACH + n]) same++;
            }
            most = Math.max(most, same);
        }
        return most;
    }

    // ---- which one it was

    public int heard(int what, int v) {
        if (!Hearsay.canBeHeard(what, v)) return NONE;
        return hearsay.add(what, v) ? hearsay.size() : NONE;
    }

    public int denies() {
        int size = hearsay.size();
        hearsay.clear();
        return size;
    }

    public int fits() {
        int fitting = fittingCrossings();
        told.tell(Integer.bitCount(fitting));
        return fitting;
    }

    public int asks() {
        int fitting = fittingCrossings();
        if (fitting == 0) return NOT_SO;
        int all = Integer.bitCount(fitting);
        int best = 0;
        int least = MOST_CROSSINGS;
        for (int question = 0; question < 40; question++) {
            int what = question / 10;
            int v = question % 10;
            if (!Hearsay.canBeHeard(what, v)) continue;
            int yes = Integer.bitCount(fitting & crossingsOf(what, v));
            int left = Math.max(yes, all - yes);
            if (left < least) {
                least = left;
                best = question;
            }
        }
        told.tell(least);
        return best;
    }

    private int fittingCrossings() {
        int fitting = (1 << paths.crossings()) - 2;
        for (int i = 0; i < hearsay.size(); i++) fitting &= crossingsOf(hearsay.what(i), hearsay.value(i));
        return fitting;
    }

    /** CROSSINGS (bits) of which it is so. */
    private int crossingsOf(int what, int v) {
        int those = 0;
        for (int crossing = 1; crossing < paths.crossings(); crossing++) {
            if (isSo(crossing, what, v)) those |= 1 << crossing;
        }
        return those;
    }

    private boolean isSo(int crossing, int what, int v) {
        if (!paths.hasPost(crossing)) return false;
        switch (what) {
            case 0: return paths.degree(crossing) == v;
            case 1: return now.crowds[crossing] >= v;
            case 2: return paths.goal(crossing, now.posts[crossing]) == v;
            default: return paths.far(crossing) == v;
        }
    }

    // ---- a game, laws, waiting, years

    public int crowds(int a, int b) {
        if (a < 0 || a > LARGEST_GAME || b < 0 || b > LARGEST_GAME) return NONE;
        told.tell();
        if (isCold(a, b)) return 0;
        for (int x = 0; x <= a; x++) {
            for (int y = 0; y <= b; y++) {
                boolean isMove = x == 0 ? y > 0 : y == 0 || x == y;
                if (isMove && isCold(a - x, b - y)) {
                    told.tell(x, y);
                    return 1;
                }
            }
        }
        return 0;
    }

    /** If who has to send out of these two crowds loses by best play of the other one. */
    private boolean isCold(int a, int b) {
        return a >= 0 && a < coldPartners.length && coldPartners[a] == b;
    }

    /** Each crowd has one other with which it loses; the k-th such pairs are k apart. */
    private static void fillColdPartners(int[] partners) {
        for (int a = 0; a < partners.length; a++) partners[a] = NONE;
        int apart = 0;
        for (int a = 0; a < partners.length; a++) {
            if (partners[a] != NONE) continue;
            int b = a + apart;
            partners[a] = b;
            if (b < partners.length) partners[b] = a;
            apart++;
        }
    }

    public int law() {
        int answer = draftTurner.read(text);
        text.cut(0);
        if (answer < 0) return answer - 9999;
        int from = paths.crossings() - 1;
        int byIt = lengthBy(draftTurner, from);
        int byRule = lengthBy(turner, from);
        told.tell(byIt, byRule);
        return byIt - byRule;
    }

    private int lengthBy(Turner law, int from) {
        trial.copyFrom(now);
        int gone = walkHome(trial, law, from);
        return gone < 0 ? LONGEST_WALK + 1 : gone;
    }

    public int waits(int v) {
        if (v < 0 || v > LONGEST_WAIT) return NONE;
        int pairs = 0;
        told.tell();
        for (int x = 0; x <= LONGEST_WAIT; x++) {
            for (int y = 0; y <= LONGEST_WAIT; y++) {
                if (!isBestWait(x, y, v) || !isBestWait(y, x, v)) continue;
                if (pairs == 0) told.tell(x, y);
                pairs++;
            }
        }
        return pairs;
    }

    /** If no other number costs less than x against one who waits for y. */
    private static boolean isBestWait(int x, int y, int v) {
        int cost = waitCost(x, y, v);
        for (int other = 0; other <= LONGEST_WAIT; other++) {
            if (waitCost(other, y, v) < cost) return false;
        }
        return true;
    }

    private static int waitCost(int x, int y, int v) {
        return x + (x < v ? 6 : 0) + (x > y ? 2 : 0);
    }

    public int years(int seed, int n) {
        if (n < 1 || n > 60) return NONE;
        trial.copyFrom(now);
        int random = seed;
        int came = 0;
        int steps = 0;
        for (int time = 0; time < n; time++) {
            random = nextRandom(random);
            int what = draw(random, 4);
            random = nextRandom(random);
            int v = 1 + draw(random, paths.crossings() - 1);
            if (!paths.hasPost(v)) continue;
            if (what < 2) {
                if (trial.crowds[v] < FULL_CROWD) trial.crowds[v]++;
            } else if (what == 2 && trial.crowds[v] > 0) {
                steps++;
                if (stepOf(trial, v) == 0) came++;
            } else if (what == 3 && canBurst(trial, v)) {
                came += burst(trial, v);
            }
        }
        told.tell(trial.walkers(), steps);
        return came;
    }

    private static int nextRandom(int random) {
        return random * 1103515245 + 12345;
    }

    private static int draw(int random, int n) {
        return n > 0 ? (random >>> 16) % n : 0;
    }

    // ---- kept

    public boolean keep(int i) {
        if (!past.isNumber(i)) return false;
        past.store(i, now);
        return true;
    }

    public boolean again(int i) {
        if (!past.bring(i, now)) return false;
        past.forgetActs();
        return true;
    }

    public int count(int what) {
        switch (what) {
            case 0: return paths.crossings();
            case 1: return paths.waysInAll();
            case 2: return now.housed;
            case 3: return now.steps;
            case 4: return now.walkers();
            case 5: return now.peopled();
            case 6: return sights.size();
            case 7: return hearsay.size();
            case 8: return past.size();
            case 9: return told.size();
            case 10: return text.size();
            default: return -100;
        }
    }

    public long row(int i) throws NoSuchElementException {
        if (i < 0 || i >= told.size()) throw new NoSuchElementException();
        return told.at(i);
    }

    /** THE TEXT. */
    private static final class Signs {
        private final int[] signs = new int[MOST_SIGNS];
        private int size;

        int size() {
            return size;
        }

        /** The sign at p; NONE behind the end. */
        int at(int p) {
            return p >= 0 && p < size ? signs[p] : NONE;
        }

        void add(int sign) {
            if (size < signs.length) {
                signs[size] = sign;
                size++;
            }
        }

        void cut(int n) {
            if (n >= 0 && n < size) size = n;
        }
    }

    /** The ROW. */
    private static final class Told {
        private final long[] numbers = new long[MOST_CROSSINGS];
        private int size;

        int size() {
            return size;
        }

        long at(int i) {
            return i >= 0 && i < size ? numbers[i] : 0;
        }

        void add(long number) {
            if (size < numbers.length) {
                numbers[size] = number;
                size++;
            }
        }

        void tell() {
            size = 0;
        }

        void tell(long number) {
            tell();
            add(number);
        }

        void tell(long first, long second) {
            tell(first);
            add(second);
        }

        /** The numbers of CROSSINGS 1, 2, .. */
        void tellRow(int[] ofCrossings, int crossings) {
            tell();
            for (int v = 1; v < crossings && v < ofCrossings.length; v++) add(ofCrossings[v]);
        }
    }

    /** The net. */
    private static final class Paths {
        private final int[] degrees = new int[MOST_CROSSINGS];
        private final int[] goals = new int[MOST_CROSSINGS * MOST_WAYS];
        private final int[] nexts = new int[MOST_CROSSINGS];
        private final int[] fars = new int[MOST_CROSSINGS];
        private int crossings;
        private int waysInAll;

        void startAnew() {
            clear();
            crossings = 2;
            addWay(1, 0);
            measure(0, fars);
        }

        private void clear() {
            waysInAll = 0;
            crossings = 1;
            for (int v = 0; v < MOST_CROSSINGS; v++) {
                degrees[v] = 0;
                nexts[v] = 0;
                fars[v] = NONE;
            }
        }

        void copyFrom(Paths other) {
            crossings = other.crossings;
            waysInAll = other.waysInAll;
            System.arraycopy(other.degrees, 0, degrees, 0, MOST_CROSSINGS);
            System.arraycopy(other.goals, 0, goals, 0, MOST_CROSSINGS * MOST_WAYS);
            System.arraycopy(other.nexts, 0, nexts, 0, MOST_CROSSINGS);
            System.arraycopy(other.fars, 0, fars, 0, MOST_CROSSINGS);
        }

        /** Reads a net from a text: how many CROSSINGS, or what the net can't be for. */
        int read(Signs text) {
            clear();
            int line = 1;
            for (int p = 0; p < text.size(); p++) {
                int sign = text.at(p);
                // A ; may end the seventh LINE: it is the eighth one's first sign that can't stand.
                if (sign == ';' && line < MOST_CROSSINGS && degrees[line] > 0) line++;
                else if (sign < '0' || sign > '7' || !addWay(line, sign - '0')) return -1 - p;
            }
            if (line >= MOST_CROSSINGS || degrees[line] == 0) return -1 - text.size();
            crossings = line + 1;
            return check();
        }

        private boolean addWay(int from, int to) {
            if (from < 1 || from >= MOST_CROSSINGS || from == to || degrees[from] >= MOST_WAYS) return false;
            goals[from * MOST_WAYS + degrees[from]] = to;
            degrees[from]++;
            nexts[from] |= 1 << to;
            waysInAll++;
            return true;
        }

        private int check() {
            for (int v = 1; v < crossings; v++) {
                if (nexts[v] >> crossings != 0) return -100;
            }
            measure(0, fars);
            for (int v = 1; v < crossings; v++) {
                if (fars[v] < 0) return -101;
            }
            return crossings;
        }

        /** The fewest WAYS from each CROSSING to one; NONE where there are none. */
        void measure(int to, int[] fewest) {
            for (int v = 0; v < MOST_CROSSINGS && v < fewest.length; v++) fewest[v] = v == to ? 0 : NONE;
            int reached = 1 << to;
            for (int far = 1; far < crossings; far++) {
                int with = reached;
                for (int v = 1; v < crossings && v < fewest.length; v++) {
                    if (fewest[v] < 0 && (nexts[v] & reached) != 0) {
                        fewest[v] = far;
                        with |= 1 << v;
                    }
                }
                reached = with;
            }
        }

        int crossings() {
            return crossings;
        }

        int waysInAll() {
            return waysInAll;
        }

        boolean has(int v) {
            return v >= 0 && v < crossings;
        }

        boolean hasPost(int v) {
            return v >= 1 && v < crossings;
        }

        boolean hasWay(int v, int k) {
            return v >= 1 && v < crossings && k >= 0 && k < degrees[v];
        }

        int degree(int v) {
            return hasPost(v) ? degrees[v] : 0;
        }

        int goal(int v, int k) {
            return hasWay(v, k) ? goals[v * MOST_WAYS + k] : 0;
        }

        int far(int v) {
            return has(v) ? fars[v] : NONE;
        }

        /** How many WAYS go from one to another. */
        int waysTo(int from, int to) {
            int ways = 0;
            for (int k = 0; k < degree(from); k++) {
                if (goal(from, k) == to) ways++;
            }
            return ways;
        }

        /** The CROSSINGS (bits) to which one comes who never goes to without. */
        int reach(int from, int without) {
            int reached = 1 << from;
            int open = ~(1 << without);
            for (int far = 1; far < crossings; far++) {
                for (int v = 1; v < crossings; v++) {
                    if ((reached >> v & 1) == 1) reached |= nexts[v] & open;
                }
            }
            return reached;
        }

        /** The CROSSINGS (bits) to which there are WAYS from v, and back. */
        int parishOf(int v) {
            int parish = 0;
            int reached = reach(v, MOST_CROSSINGS);
            for (int other = 0; other < crossings; other++) {
                boolean isBothWays = (reached >> other & 1) == 1 && (reach(other, MOST_CROSSINGS) >> v & 1) == 1;
                if (isBothWays) parish |= 1 << other;
            }
            return parish;
        }
    }

    /** What undo() brings back: POSTS, CROWDS, HOUSED, STEPS. */
    private static final class Moor {
        private final int[] posts = new int[MOST_CROSSINGS];
        private final int[] crowds = new int[MOST_CROSSINGS];
        private int housed;
        private int steps;

        void clear() {
            housed = 0;
            steps = 0;
            for (int v = 0; v < MOST_CROSSINGS; v++) {
                posts[v] = 0;
                crowds[v] = 0;
            }
        }

        void copyFrom(Moor other) {
            housed = other.housed;
            steps = other.steps;
            System.arraycopy(other.posts, 0, posts, 0, MOST_CROSSINGS);
            System.arraycopy(other.crowds, 0, crowds, 0, MOST_CROSSINGS);
        }

        void house(int many) {
            housed = Math.min(MOST_HOUSED, housed + many);
        }

        int walkers() {
            int all = 0;
            for (int v = 1; v < MOST_CROSSINGS; v++) all += crowds[v];
            return all;
        }

        /** Which have a CROWD (bits). */
        int peopled() {
            int those = 0;
            for (int v = 1; v < MOST_CROSSINGS; v++) {
                if (crowds[v] > 0) those |= 1 << v;
            }
            return those;
        }

        boolean hasPostsOf(Moor other) {
            for (int v = 1; v < MOST_CROSSINGS; v++) {
                if (posts[v] != other.posts[v]) return false;
            }
            return true;
        }
    }

    /** A RULE, read from a text into a row of codes: operands ahead of what joins them. */
    private static final class Turner {
        private static final int LETTER = 1000;
        private static final int JOIN = 2000;
        private static final int NEGATE = 3000;
        private static final int OPEN = 3001;

        private final int[] codes = new int[LONGEST_RULE];
        private final int[] waiting = new int[LONGEST_RULE];
        private final int[] stack = new int[LONGEST_RULE];
        private final boolean[] compared = new boolean[DEEPEST + 1];
        private int size;
        private int held;
        private int depth;
        private int digits;
        private boolean wantsThing;

        void copyFrom(Turner other) {
            size = other.size;
            System.arraycopy(other.codes, 0, codes, 0, LONGEST_RULE);
        }

        /** Reads a rule from a text: 0, or -1 - p of the sign that can't stand. */
        int read(Signs text) {
            size = 0;
            held = 0;
            depth = 0;
            digits = 0;
            wantsThing = true;
            compared[0] = false;
            int most = Math.min(text.size(), LONGEST_RULE);
            for (int p = 0; p < most; p++) {
                boolean stands = wantsThing ? takeThing(text.at(p)) : takeNext(text.at(p));
                if (!stands) return -1 - p;
            }
            if (text.size() > LONGEST_RULE) return -1 - LONGEST_RULE;
            if (text.size() > 0 && (wantsThing || depth > 0)) return -1 - text.size();
            emitWaiting(1);
            return 0;
        }

        /** A sign where a thing is to begin. */
        private boolean takeThing(int sign) {
            if (sign == '-') {
                hold(NEGATE);
                return true;
            }
            if (sign == '(') {
                if (depth >= DEEPEST) return false;
                depth++;
                compared[depth] = false;
                hold(OPEN);
                return true;
            }
            boolean isNumber = isDigit(sign);
            if (!isNumber && !isLetter(sign)) return false;
            emit(isNumber ? sign - '0' : LETTER + sign);
            digits = isNumber ? 1 : 0;
            wantsThing = false;
            return true;
        }

        /** A sign behind a thing, or a digit of it. */
        private boolean takeNext(int sign) {
            if (isDigit(sign)) return takeDigit(sign - '0');
            digits = 0;
            if (sign == ')') {
                if (depth == 0) return false;
                emitWaiting(1);
                if (held > 0) held--;
                depth--;
                return true;
            }
            int strength = strengthOf(JOIN + sign);
            if (strength == 0) return false;
            if (strength == 1) {
                if (depth < 0 || depth > DEEPEST || compared[depth]) return false;
                compared[depth] = true;
            }
            emitWaiting(strength);
            hold(JOIN + sign);
            wantsThing = true;
            return true;
        }

        private boolean takeDigit(int digit) {
            if (digits < 1 || digits > 2 || size < 1) return false;
            codes[size - 1] = codes[size - 1] * 10 + digit;
            digits++;
            return true;
        }

        private static boolean isLetter(int sign) {
            switch (sign) {
                case 'd': case 'k': case 'w': case 'c': case 'i': case 'h': case 'n': return true;
                default: return false;
            }
        }

        /** How strongly a code binds; 0 if it joins nothing. */
        private static int strengthOf(int code) {
            switch (code) {
                case JOIN + '<': case JOIN + '>': case JOIN + '=': return 1;
                case JOIN + '+': case JOIN + '-': return 2;
                case JOIN + '*': case JOIN + '/': return 3;
                case NEGATE: return 4;
                default: return 0;
            }
        }

        private void emit(int code) {
            if (size < codes.length) {
                codes[size] = code;
                size++;
            }
        }

        private void hold(int code) {
            if (held < waiting.length) {
                waiting[held] = code;
                held++;
            }
        }

        /** What held and binds as strongly, or more, comes ahead of what follows. */
        private void emitWaiting(int strength) {
            while (held > 0 && strengthOf(waiting[held - 1]) >= strength) {
                held--;
                emit(waiting[held]);
            }
        }

        /** TURN of a CROSSING, of so many WAYS, whose POST goes to another one. */
        int turn(Moor moor, int v, int degree, int to) {
            if (size == 0) return 1;
            int high = 0;
            for (int t = 0; t < size; t++) {
                int code = codes[t];
                if (code < JOIN) {
                    if (high < stack.length) {
                        stack[high] = code < LETTER ? code : letterValue(code - LETTER, moor, v, degree, to);
                        high++;
                    }
                } else if (code == NEGATE) {
                    if (high > 0) stack[high - 1] = -stack[high - 1];
                } else if (high > 1) {
                    high--;
                    stack[high - 1] = joined(code - JOIN, stack[high - 1], stack[high]);
                }
            }
            return Math.max(0, Math.min(9, stack[0]));
        }

        private static int letterValue(int letter, Moor moor, int v, int degree, int to) {
            if (v < 1 || v >= MOST_CROSSINGS) return 0;
            switch (letter) {
                case 'd': return degree;
                case 'k': return moor.posts[v];
                case 'w': return to;
                case 'c': return moor.crowds[v];
                case 'i': return v;
                case 'h': return moor.housed % 7;
                default: return moor.steps % 7;
            }
        }

        private static int joined(int sign, int a, int b) {
            switch (sign) {
                case '<': return a < b ? 1 : 0;
                case '>': return a > b ? 1 : 0;
                case '=': return a == b ? 1 : 0;
                case '+': return a + b;
                case '-': return a - b;
                case '*': return a * b;
                default: return b == 0 ? 0 : a / b;
            }
        }
    }

    /** What can be undone, in a ring of places, and behind these what is kept under numbers. */
    private static final class Past {
        private static final int ACTS = 15;
        private static final int NUMBERS = 3;
        private static final int PLACE = 2 * MOST_CROSSINGS + 2;

        private final int[] shelf = new int[(ACTS + NUMBERS) * PLACE];
        private int size;
        private int next;
        private int kept;

        int size() {
            return size;
        }

        void forgetActs() {
            size = 0;
        }

        void forgetAll() {
            size = 0;
            kept = 0;
        }

        void push(Moor moor) {
            write(next, moor);
            next = (next + 1) % ACTS;
            if (size < ACTS) size++;
        }

        boolean takeBack(Moor moor) {
            if (size < 1) return false;
            size--;
            next = (next + ACTS - 1) % ACTS;
            read(next, moor);
            return true;
        }

        boolean isNumber(int i) {
            return i >= 0 && i < NUMBERS;
        }

        void store(int i, Moor moor) {
            if (!isNumber(i)) return;
            write(ACTS + i, moor);
            kept |= 1 << i;
        }

        boolean bring(int i, Moor moor) {
            if (!isNumber(i) || (kept >> i & 1) == 0) return false;
            read(ACTS + i, moor);
            return true;
        }

        private void write(int place, Moor moor) {
            if (place < 0 || place >= ACTS + NUMBERS) return;
            int at = place * PLACE;
            System.arraycopy(moor.posts, 0, shelf, at, MOST_CROSSINGS);
            System.arraycopy(moor.crowds, 0, shelf, at + MOST_CROSSINGS, MOST_CROSSINGS);
            shelf[at + PLACE - 2] = moor.housed;
            shelf[at + PLACE - 1] = moor.steps;
        }

        private void read(int place, Moor moor) {
            if (place < 0 || place >= ACTS + NUMBERS) return;
            int at = place * PLACE;
            System.arraycopy(shelf, at, moor.posts, 0, MOST_CROSSINGS);
            System.arraycopy(shelf, at + MOST_CROSSINGS, moor.crowds, 0, MOST_CROSSINGS);
            moor.housed = shelf[at + PLACE - 2];
            moor.steps = shelf[at + PLACE - 1];
        }
    }

    /** CROWDS that BURST without anyone being housed. */
    private static final class Sand {
        private final int[] heap = new int[MOST_CROSSINGS];
        private final int[] times = new int[MOST_CROSSINGS];
        private final int[] neutral = new int[MOST_CROSSINGS];

        void load(int[] crowds) {
            for (int v = 0; v < MOST_CROSSINGS && v < crowds.length; v++) heap[v] = crowds[v];
        }

        void pour(int[] crowds) {
            for (int v = 0; v < MOST_CROSSINGS && v < crowds.length; v++) heap[v] += crowds[v];
        }

        boolean holds(int[] crowds) {
            for (int v = 1; v < MOST_CROSSINGS && v < crowds.length; v++) {
                if (heap[v] != crowds[v]) return false;
            }
            return true;
        }

        /** The heap BURSTS till it is calm: how often; how often each does is in times. */
        int calm(Paths paths) {
            for (int v = 0; v < MOST_CROSSINGS; v++) times[v] = 0;
            int all = 0;
            int ahead = NONE;
            for (int sweep = 0; sweep <= MOST_BURSTS && all > ahead && all <= MOST_BURSTS; sweep++) {
                ahead = all;
                // The order is all one, so that each may BURST as often as it can at once.
                for (int v = 1; v < paths.crossings(); v++) all += burstAtOnce(paths, v);
            }
            return all > MOST_BURSTS ? ENDLESS : all;
        }

        private int burstAtOnce(Paths paths, int v) {
            int degree = paths.degree(v);
            if (degree < 1 || heap[v] < degree) return 0;
            int often = heap[v] / degree;
            heap[v] -= often * degree;
            for (int k = 0; k < degree; k++) {
                int to = paths.goal(v, k);
                if (paths.hasPost(to)) heap[to] += often;
            }
            times[v] += often;
            return often;
        }

        /** Makes THE UNIT, in neutral: how many walkers it has. */
        int makeUnit(Paths paths) {
            fillTwice(paths);
            if (calm(paths) < 0) return ENDLESS;
            for (int v = 0; v < MOST_CROSSINGS; v++) neutral[v] = heap[v];
            fillTwice(paths);
            for (int v = 0; v < MOST_CROSSINGS; v++) heap[v] -= neutral[v];
            if (calm(paths) < 0) return ENDLESS;
            int walkers = 0;
            for (int v = 0; v < MOST_CROSSINGS; v++) {
                neutral[v] = heap[v];
                walkers += neutral[v];
            }
            return walkers;
        }

        private void fillTwice(Paths paths) {
            for (int v = 0; v < MOST_CROSSINGS; v++) heap[v] = paths.hasPost(v) ? 2 * (paths.degree(v) - 1) : 0;
        }
    }

    /** Trees and chances, by whole numbers alone: a fraction is upper by lower. */
    private static final class Chances {
        private static final int ALL_DEGREES = 12;

        private final long[][] cells = new long[MOST_CROSSINGS][MOST_CROSSINGS + 1];
        private final long[] shares = new long[MOST_CROSSINGS];
        private final long[] spreads = new long[MOST_CROSSINGS];
        private long upper;
        private long lower;

        /**
         * How many TREES there are of which CROSSINGS 1 .. fixed have POSTS as picked.
         * It is the determinant of what leaves each CROSSING less what comes there.
         */
        int treesWith(Paths paths, int[] picks, int fixed) {
            int size = paths.crossings() - 1;
            clearCells();
            for (int v = 1; v <= size; v++) {
                if (v <= fixed) addWay(v - 1, paths.goal(v, picks[v]) - 1);
                for (int k = 0; v > fixed && k < paths.degree(v); k++) addWay(v - 1, paths.goal(v, k) - 1);
            }
            return eliminate(size) ? (int) cells[size - 1][size - 1] : 0;
        }

        private void addWay(int from, int to) {
            if (from < 0 || from >= MOST_CROSSINGS) return;
            cells[from][from]++;
            if (to >= 0 && to < MOST_CROSSINGS) cells[from][to]--;
        }

        private void clearCells() {
            for (int i = 0; i < MOST_CROSSINGS; i++) {
                for (int j = 0; j <= MOST_CROSSINGS; j++) cells[i][j] = 0;
            }
        }

        /**
         * From a CROSSING the mean of WAYS to THE INN (to is 0), or how likely one passes through to.
         * The CROSSING asked for changes places with the last one: so it stands last in the end.
         */
        void solve(Paths paths, int crossing, int to) {
            int size = paths.crossings() - 1;
            if (size < 1 || size >= MOST_CROSSINGS) return;
            clearCells();
            for (int v = 1; v <= size; v++) {
                int i = place(v, crossing, size);
                if (i < 0 || i >= size) continue;
                if (v == to) {
                    addWay(i, NONE);
                    cells[i][size] = 1;
                    continue;
                }
                for (int k = 0; k < paths.degree(v); k++) {
                    addWay(i, place(paths.goal(v, k), crossing, size));
                }
                cells[i][size] = to == 0 ? paths.degree(v) : 0;
            }
            if (eliminate(size)) tellFraction(cells[size - 1][size], cells[size - 1][size - 1]);
        }

        /** The number of the row of a CROSSING; NONE of THE INN. */
        private static int place(int v, int last, int size) {
            if (v == last) return size - 1;
            return (v == size ? last : v) - 1;
        }

        /**
         * Each number below becomes a determinant of a part, so that all divisions come out even;
         * the last one on the diagonal is that of all. False if that is 0: a part is closed off
         * from THE INN as soon as one on the diagonal is.
         */
        private boolean eliminate(int size) {
            if (size < 1 || size >= MOST_CROSSINGS) return false;
            long ahead = 1;
            for (int k = 0; k < size; k++) {
                long pivot = cells[k][k];
                if (pivot == 0) return false;
                for (int i = k + 1; i < size; i++) {
                    for (int j = k + 1; j <= size; j++) {
                        cells[i][j] = (pivot * cells[i][j] - cells[i][k] * cells[k][j]) / ahead;
                    }
                }
                ahead = pivot;
            }
            return true;
        }

        private void tellFraction(long above, long below) {
            long a = above;
            long b = below;
            for (int turn = 0; turn < 200 && b != 0; turn++) {
                long rest = a % b;
                a = b;
                b = rest;
            }
            upper = a == 0 ? 0 : above / a;
            lower = a == 0 ? 1 : below / a;
        }

        /** How likely one is at a CROSSING, to, n WAYS on. */
        void spread(Paths paths, int crossing, int n, int to) {
            if (!paths.has(crossing) || !paths.has(to)) return;
            for (int v = 0; v < MOST_CROSSINGS; v++) shares[v] = v == crossing ? 1 : 0;
            long all = 1;
            for (int gone = 0; gone < n && gone < MOST_CROSSINGS; gone++) {
                spreadOnce(paths);
                all *= ALL_DEGREES;
            }
            tellFraction(shares[to], all);
        }

        /** Shares are counted by a number that 1, 2, 3 and 4 WAYS divide. */
        private void spreadOnce(Paths paths) {
            for (int v = 0; v < MOST_CROSSINGS; v++) spreads[v] = 0;
            spreads[0] = shares[0] * ALL_DEGREES;
            for (int v = 1; v < paths.crossings(); v++) {
                int degree = paths.degree(v);
                if (degree < 1) continue;
                long share = shares[v] * (ALL_DEGREES / degree);
                for (int k = 0; k < degree; k++) {
                    int to = paths.goal(v, k);
                    if (paths.has(to)) spreads[to] += share;
                }
            }
            for (int v = 0; v < MOST_CROSSINGS; v++) shares[v] = spreads[v];
        }
    }

    /** What was seen. */
    private static final class Sights {
        private static final int MOST = 10;

        private final int[] starts = new int[MOST];
        private final int[] lengths = new int[MOST];
        private final int[] ends = new int[MOST];
        private int size;

        int size() {
            return size;
        }

        void clear() {
            size = 0;
        }

        boolean add(int crossing, int n, int at) {
            if (size >= MOST) return false;
            starts[size] = crossing;
            lengths[size] = n;
            ends[size] = at;
            size++;
            return true;
        }

        int start(int i) {
            return i >= 0 && i < size ? starts[i] : 0;
        }

        int steps(int i) {
            return i >= 0 && i < size ? lengths[i] : 0;
        }

        int place(int i) {
            return i >= 0 && i < size ? ends[i] : 0;
        }
    }

    /** What was heard. */
    private static final class Hearsay {
        private static final int MOST = 12;

        private final int[] whats = new int[MOST];
        private final int[] values = new int[MOST];
        private int size;

        static boolean canBeHeard(int what, int v) {
            switch (what) {
                case 0: return v >= 1 && v <= MOST_WAYS;
                case 1: return v >= 0 && v <= 9;
                case 2: return v >= 0 && v < MOST_CROSSINGS;
                case 3: return v >= 1 && v < MOST_CROSSINGS;
                default: return false;
            }
        }

        int size() {
            return size;
        }

        void clear() {
            size = 0;
        }

        boolean add(int what, int v) {
            if (size >= MOST) return false;
            whats[size] = what;
            values[size] = v;
            size++;
            return true;
        }

        int what(int i) {
            return i >= 0 && i < size ? whats[i] : NONE;
        }

        int value(int i) {
            return i >= 0 && i < size ? values[i] : NONE;
        }
    }
}
