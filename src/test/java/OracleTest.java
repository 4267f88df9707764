import java.lang.reflect.InvocationTargetException;
import java.lang.reflect.Method;
import java.lang.reflect.Modifier;
import java.util.ArrayList;
import java.util.Arrays;
import java.util.Comparator;
import java.util.List;
import java.util.Map;
import java.util.NoSuchElementException;
import java.util.Random;
import java.util.TreeMap;

/** Runs of calls drawn by fixed seeds, on TurningPosts and on Oracle: answers, ROWS and states are alike. No object is used for more than 512 calls. */
public final class OracleTest {
    private static final int RUNS = 4000;
    private static final int CALLS = 512;
    /** The whole state with the ROW: 11 counts, that of CROSSINGS, 8 by 4 of these, that of the ROW and its 7 numbers. */
    private static final int STATE = 11 + 1 + 32 + 1 + 7;
    /** A text put in and read, at most, and what is told behind it; and the state at the end. */
    private static final int ROUND = 23 + STATE + STATE;
    private static final List<Method> FACE = new ArrayList<>();
    private static final Map<String, Integer> KINDS = new TreeMap<>();

    private final Random random;
    private final TurningPosts own = new TurningPosts();
    private final Oracle other = new Oracle();
    private final List<String> calls = new ArrayList<>();
    private final int kind;
    private int used = 0;

    private OracleTest(long seed) {
        random = new Random(seed);
        kind = random.nextInt(4);
    }

    public static void main(String[] args) throws Exception {
        for (Method method : TurningPosts.class.getDeclaredMethods()) {
            if (Modifier.isPublic(method.getModifiers())) FACE.add(method);
        }
        FACE.sort(Comparator.comparing(Method::getName));
        long first = args.length > 0 ? Long.parseLong(args[0]) : 1;
        int runs = args.length > 1 ? Integer.parseInt(args[1]) : RUNS;
        int wrong = 0;
        for (int run = 0; run < runs && wrong < 5; run++) {
            if (!new OracleTest(first + run).isAlike()) wrong++;
        }
        if (args.length > 0) System.out.println(KINDS);
        System.out.println("OracleTest: " + runs + " runs, " + wrong + " wrong");
        if (wrong != 0) System.exit(1);
    }

    private boolean isAlike() throws Exception {
        if (random.nextInt(8) > 0 && !feeds(net(true), "net")) return false;
        if (random.nextInt(3) > 0 && !feeds(rule(), "rule")) return false;
        while (used <= CALLS - ROUND) {
            boolean alike;
            switch (random.nextInt(30)) {
                case 0: alike = random.nextInt(5) > 0 || feeds(net(random.nextInt(3) > 0), "net"); break;
                case 1: alike = random.nextInt(3) > 0 || feeds(rule(), "rule"); break;
                case 2: alike = feeds(day(), "day"); break;
                case 3: alike = feeds(rule(), "law"); break;
                default: alike = isAlikeIn(anyCall());
            }
            if (!alike) return false;
        }
        boolean alike = isToldAlike(true);
        if (used > CALLS) throw new IllegalStateException("used for " + used + " calls");
        return alike;
    }

    private Method anyCall() {
        Method method = FACE.get(random.nextInt(FACE.size()));
        String name = method.getName();
        // What ends much, or puts stray signs in, comes seldom.
        boolean isSeldom = name.equals("net") || name.equals("forget") || name.equals("denies") || name.equals("sheet");
        return isSeldom && random.nextInt(3) > 0 ? anyCall() : method;
    }

    private boolean isAlikeIn(Method method) throws Exception {
        Object[] arguments = new Object[method.getParameterCount()];
        for (int i = 0; i < arguments.length; i++) arguments[i] = argument(method.getName(), i);
        return isAlikeIn(method.getName(), arguments);
    }

    private int argument(String name, int i) {
        if (random.nextInt(60) == 0) return random.nextInt();
        if (name.equals("sheet")) {
            if (i == 0) return random.nextInt(5);
            if (i == 1) return random.nextInt(10) - 1;
            return random.nextBoolean() ? random.nextInt(5) - 1 : random.nextInt(1000) - 300;
        }
        if (name.equals("crowds")) return random.nextInt(33) - 1;
        if (name.equals("years") && i == 0) return random.nextInt();
        if (name.equals("plants")) return random.nextInt(random.nextBoolean() ? 8 : 1002);
        if (name.equals("comes") && i == 1) return random.nextInt(4) > 0 ? random.nextInt(5) : random.nextInt(102);
        if (name.equals("later") && i == 1) return random.nextInt(102);
        if ((name.equals("pass") && i == 2) || (name.equals("years") && i == 1)) return random.nextInt(62);
        if (name.equals("seen") && i == 1) return random.nextInt(22);
        if (name.equals("heard")) return random.nextInt(i == 0 ? 5 : 10);
        if (name.equals("end")) return random.nextInt(20);
        if (name.equals("count")) return random.nextInt(13) - 1;
        if (name.equals("odds") && i == 1) return random.nextInt(10);
        return random.nextInt(10) < 9 ? random.nextInt(other.count(0)) : random.nextInt(10) - 1;
    }

    private boolean feeds(String signs, String reader) throws Exception {
        if (!isAnsweredAlike("end", 0)) return false;
        for (int p = 0; p < signs.length(); p += 4) {
            int four = 0;
            for (int i = p; i < p + 4; i++) four = four << 8 | (i < signs.length() ? signs.charAt(i) & 255 : 0);
            if (!isAnsweredAlike("sign", four)) return false;
        }
        return isAnsweredAlike("end", signs.length()) && isAlikeIn(reader);
    }

    /** The call's answer; now and then the ROW, too, or the whole state. */
    private boolean isAlikeIn(String name, Object... arguments) throws Exception {
        if (!isAnsweredAlike(name, arguments)) return false;
        int how = random.nextInt(24);
        return how > 7 || isToldAlike(how == 0);
    }

    private boolean isAnsweredAlike(String name, Object... arguments) throws Exception {
        Class<?>[] types = new Class<?>[arguments.length];
        Arrays.fill(types, int.class);
        String call = name + Arrays.toString(arguments);
        used++;
        Object got = answer(TurningPosts.class.getMethod(name, types), own, arguments);
        Object want = answer(Oracle.class.getMethod(name, types), other, arguments);
        calls.add(call + " = " + want);
        if (want instanceof Integer number) KINDS.merge(name + (number < -3 ? "<-3" : number < 0 ? " " + number : ""), 1, Integer::sum);
        else KINDS.merge(name + " " + (want instanceof Long ? "" : want), 1, Integer::sum);
        if (got.equals(want)) return true;
        System.out.println(calls);
        System.out.println("the last one answered " + got + ", due is " + want);
        return false;
    }

    private boolean isToldAlike(boolean whole) {
        String got = (whole ? state(this::ownCount, this::ownPost) : "") + row(this::ownCount, this::ownRow);
        String want = (whole ? state(other::count, other::post) : "") + row(other::count, other::row);
        if (got.equals(want)) return true;
        System.out.println(calls);
        System.out.println("behind the last one " + got + ", due is " + want);
        return false;
    }

    private long ownCount(int what) {
        used++;
        return own.count(what);
    }

    private long ownRow(int i) {
        used++;
        return own.row(i);
    }

    private long ownPost(int v, int what) {
        used++;
        return own.post(v, what);
    }

    private static Object answer(Method method, Object on, Object[] arguments) throws IllegalAccessException {
        try {
            method.setAccessible(true);
            return method.invoke(on, arguments);
        } catch (InvocationTargetException e) {
            Throwable cause = e.getCause();
            boolean isOwn = on instanceof Oracle || cause.getStackTrace()[0].getClassName().equals("TurningPosts");
            if (cause instanceof NoSuchElementException && isOwn) return "thrown";
            throw new IllegalStateException(cause);
        }
    }

    private interface One {
        long of(int i);
    }

    private interface Two {
        long of(int v, int what);
    }

    private static String state(One count, Two post) {
        StringBuilder all = new StringBuilder();
        for (int what = 0; what <= 10; what++) all.append(count.of(what)).append(' ');
        all.append("POSTS ");
        long crossings = count.of(0);
        for (int v = 0; v < crossings; v++) {
            for (int what = 1; what <= 4; what++) all.append(post.of(v, what)).append(what == 4 ? "  " : ",");
        }
        return all.toString();
    }

    private static String row(One count, One row) {
        StringBuilder all = new StringBuilder("ROW ");
        long size = count.of(9);
        for (int i = 0; i < size; i++) all.append(row.of(i)).append(' ');
        return all.toString();
    }

    // ---- texts

    private String net(boolean good) {
        int lines = 1 + random.nextInt(7);
        StringBuilder net = new StringBuilder();
        for (int v = 1; v <= lines; v++) {
            int most = kind == 0 ? 2 : 4;
            int ways = 1 + random.nextInt(most);
            boolean homeward = good && kind != 3;
            for (int k = 0; k < ways; k++) {
                int to = random.nextInt(lines + 1);
                if (to == v) to = v - 1;
                if (k == 0 && homeward && random.nextInt(4) > 0) to = random.nextInt(v);
                if (k == 0 && kind == 2) to = v - 1;
                if (k > 0 && kind == 2 && random.nextBoolean() && v < lines) to = lines;
                net.append(to);
            }
            if (v < lines) net.append(';');
        }
        return good ? net.toString() : spoilt(net, "01234567;;89x");
    }

    private String rule() {
        if (random.nextInt(8) == 0) return "";
        String rule = expression(3);
        for (int tries = 0; tries < 9 && rule.length() > 40; tries++) rule = expression(2);
        return random.nextInt(4) > 0 ? rule : spoilt(new StringBuilder(rule), "<>=+-*/()0123456789dkwcihnx");
    }

    private String expression(int depth) {
        String sum = sum(depth);
        return random.nextInt(4) > 0 ? sum : sum + "<>=".charAt(random.nextInt(3)) + sum(depth);
    }

    private String sum(int depth) {
        String sum = product(depth);
        while (random.nextInt(3) == 0) sum += "+-".charAt(random.nextInt(2)) + product(depth);
        return sum;
    }

    private String product(int depth) {
        String product = thing(depth);
        while (random.nextInt(4) == 0) product += "*/".charAt(random.nextInt(2)) + thing(depth);
        return product;
    }

    private String thing(int depth) {
        if (random.nextInt(8) == 0) return "-" + thing(depth);
        if (depth > 0 && random.nextInt(4) == 0) return "(" + expression(depth - 1) + ")";
        if (random.nextInt(3) == 0) return "" + random.nextInt(random.nextInt(5) == 0 ? 1000 : 4);
        return "" + "dkwcihn".charAt(random.nextInt(7));
    }

    private String day() {
        StringBuilder day = new StringBuilder();
        int acts = random.nextInt(random.nextInt(4) == 0 ? 40 : 12);
        int most = other.count(0);
        for (int act = 0; act < acts; act++) {
            char sign = "ccggwbap".charAt(random.nextInt(8));
            day.append(sign);
            int v = random.nextInt(30) == 0 ? random.nextInt(10) : 1 + random.nextInt(most - 1);
            if (sign != 'a') day.append(v);
            if (sign == 'c') day.append(1 + random.nextInt(9));
            if (sign == 'p') day.append(random.nextInt(4));
        }
        if (day.length() > 80) day.setLength(80);
        return random.nextInt(4) > 0 ? day.toString() : spoilt(day, "cgwbap0123456789x");
    }

    /** Some signs changed, put in or taken out. */
    private String spoilt(StringBuilder text, String signs) {
        for (int change = random.nextInt(3); change >= 0; change--) {
            char sign = signs.charAt(random.nextInt(signs.length()));
            int p = random.nextInt(text.length() + 1);
            int how = random.nextInt(4);
            if (how == 0 || p == text.length()) text.insert(p, sign);
            else if (how == 1) text.deleteCharAt(p);
            else if (how == 2) text.setCharAt(p, sign);
            else text.setLength(p);
        }
        if (text.length() > 80) text.setLength(80);
        return text.toString();
    }
}
