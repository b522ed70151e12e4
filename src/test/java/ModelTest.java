import java.lang.reflect.InvocationTargetException;
import java.lang.reflect.Method;
import java.lang.reflect.Modifier;
import java.util.Arrays;
import java.util.HashMap;
import java.util.Map;
import java.util.Random;

// Holds LowFall against SlowFall, the document written once more: the same calls to both, by fixed seeds,
// each answer (or exception) compared, and at the end of a run all that can be asked.
public final class ModelTest {
    private static final int CALLS = 512;
    private static final Map<String, Method> FACE = face();

    private final Random random;
    private final LowFall fast = new LowFall();
    private final SlowFall slow = new SlowFall();
    private final StringBuilder told = new StringBuilder();
    private int calls = 0;
    private boolean wrong = false;
    // Where a run mostly plays: a few cells beside each other, so that things meet.
    private final int corner;

    private ModelTest(int seed) {
        random = new Random(seed);
        corner = 10 * random.nextInt(6) + random.nextInt(6);
    }

    // Other seeds than those of .ci/run: the first and the last as arguments.
    public static void main(String[] args) {
        int first = args.length == 2 ? Integer.parseInt(args[0]) : 1;
        int last = args.length == 2 ? Integer.parseInt(args[1]) : 400;
        int failures = 0;
        for (int seed = first; seed <= last && failures < 3; seed++) {
            ModelTest test = new ModelTest(seed);
            test.run();
            if (test.wrong) {
                failures++;
                System.out.println("seed " + seed + ":\n" + test.told);
            }
        }
        System.out.println(failures == 0 ? "model: seeds " + first + " to " + last + " agree" : "model: runs disagree");
        if (failures != 0) System.exit(1);
    }

    private void run() {
        settle();
        while (calls < CALLS && !wrong) step();
        if (!wrong) compareAll();
    }

    // ---- one call to both

    // Both have methods of the same names and kinds of arguments: those of the document's face.
    private static String answer(Object city, String name, long[] a) {
        Method face = FACE.get(name);
        Object[] given = new Object[a.length];
        for (int i = 0; i < a.length; i++) {
            Class<?> kind = face.getParameterTypes()[i];
            if (kind == long.class) given[i] = a[i];
            else if (kind == boolean.class) given[i] = a[i] == 1;
            else given[i] = (int) a[i];
        }
        try {
            return "" + city.getClass().getDeclaredMethod(name, face.getParameterTypes()).invoke(city, given);
        } catch (InvocationTargetException e) {
            Class<?> thrown = e.getCause().getClass();
            boolean promised = Arrays.asList(face.getExceptionTypes()).contains(thrown);
            return promised ? thrown.getSimpleName() : thrown + " out of " + city.getClass();
        } catch (ReflectiveOperationException e) {
            throw new IllegalStateException(e);
        }
    }

    private static Map<String, Method> face() {
        Map<String, Method> face = new HashMap<>();
        for (Method m : LowFall.class.getDeclaredMethods()) if (Modifier.isPublic(m.getModifiers())) face.put(m.getName(), m);
        return face;
    }

    private String call(String name, long... a) {
        calls++;
        return compare(name, a);
    }

    private String compare(String name, long... a) {
        if (wrong) return "";
        String mine = answer(fast, name, a), due = answer(slow, name, a);
        told.append(name).append(Arrays.toString(a)).append(" = ").append(mine);
        if (!mine.equals(due)) {
            told.append(", due is ").append(due);
            wrong = true;
        }
        told.append('\n');
        return mine;
    }

    // Beyond the 512 calls that are promised: the class counts none, and so each hidden fault shows.
    private void compareAll() {
        for (int c = 0; c < 100; c++) {
            for (int what = 0; what <= 16; what++) compare("of", c, what);
            for (int what = 0; what <= 3; what++) compare("house", c, what);
            for (int kind = 0; kind <= 2; kind++) compare("holds", kind, c);
            compare("mapOf", c, 0, 4999);
            compare("lasts", c, 3);
        }
        for (int line = 0; line < 8; line++) {
            for (int i = 0; i <= 19; i++) {
                for (int what = 0; what <= 6; what++) compare("lineOf", line, i, what);
                compare("bears", line, i);
            }
            compare("carries", line);
        }
        for (int what = 0; what <= 18; what++) compare("count", what);
        for (int i = 0; i <= 19; i++) compare("way", i);
        for (int d = 0; d < 6; d++) {
            for (int i = 0; i <= 100; i += 3) compare("at", d, i);
            compare("toss", d);
        }
        compare("cutOff");
        compare("best", 9999999, 0);
    }

    // ---- the drawing of calls

    private int less(int n) { return random.nextInt(n); }

    private boolean oneIn(int n) { return less(n) == 0; }

    // A number of a range; seldom one just beyond it, or far.
    private long from(int least, int most) {
        if (oneIn(40)) return oneIn(4) ? (oneIn(2) ? Integer.MIN_VALUE : Integer.MAX_VALUE) : oneIn(2) ? least - 1 : most + 1;
        if (oneIn(12)) return oneIn(2) ? least : most;
        return least + less(most - least + 1);
    }

    private int place() { return oneIn(8) ? less(100) : corner + 10 * less(4) + less(4); }

    private long cell() { return oneIn(60) ? from(0, 99) : place(); }

    private long neighbour(long cell) {
        if (oneIn(15)) return oneIn(2) ? -1 : cell();
        int[] steps = {1, -1, 10, -10};
        return cell + steps[less(4)];
    }

    private long day() { return oneIn(4) ? from(0, 4999) : slow.s.hour / 24 + less(5) - 1; }

    private long line() { return oneIn(20) ? from(0, 7) : less(Math.max(1, slow.s.lines.size())); }

    private long tapeNo() { return oneIn(50) ? from(0, 5) : less(6); }

    // A city to begin with, so that most calls meet something.
    private void settle() {
        call("kiln", 1000 + less(9000));
        for (int i = 0; i < 8; i++) call("set", cell(), 2, less(10000));
        for (int i = 0; i < 3; i++) call("set", cell(), 5, 1);
        if (!oneIn(4)) call("set", cell(), 4, 1);
        for (int i = 0; i < 12; i++) {
            long c = cell();
            call("old", c, neighbour(c), 70 + less(30), less(4));
        }
        if (oneIn(2)) call("rain", less(60));
        if (oneIn(2)) layTide();
    }

    private void layTide() {
        int n = 1 + less(8);
        call("tape", 0, 1, n);
        for (int i = 0; i < n; i++) call("put", 0, i, less(41) - 20);
        call("tide", 0);
    }

    private void drive() {
        call("route", cell(), cell(), oneIn(5) ? from(0, 300) : 85 + less(25), oneIn(3) ? from(1, 9) : 1);
        if (oneIn(3)) call("way", from(0, 18));
        call("take", from(1, oneIn(3) ? 9 : 3), from(0, 1));
        call("gangs", line(), from(0, 4));
    }

    private String sum() {
        StringBuilder text = new StringBuilder();
        int units = oneIn(3) ? 1 + less(3) : 1;
        for (int i = 0; i < units; i++) {
            if (i > 0) text.append("+-*".charAt(less(3)));
            if (oneIn(2)) text.append(oneIn(6) ? 9999 : less(oneIn(2) ? 5 : 300));
            else text.append("hsptdkowfcmu".charAt(less(12)));
        }
        return text.toString();
    }

    private String test(int depth) {
        if (depth > 0 && oneIn(4)) return "!" + test(depth - 1);
        if (depth > 0 && oneIn(3)) return "(" + ors(depth - 1) + ")";
        return sum() + "<=>".charAt(less(3)) + sum();
    }

    private String ors(int depth) {
        StringBuilder text = new StringBuilder(test(depth));
        while (oneIn(3)) text.append(oneIn(2) ? '|' : '&').append(test(depth));
        return text.toString();
    }

    private void pass() {
        StringBuilder text = new StringBuilder(oneIn(8) ? "!(!(!" + ors(2) : ors(less(4)));
        if (oneIn(4) && text.length() > 0) {
            int at = less(text.length());
            if (oneIn(2)) text.setLength(at);
            else text.setCharAt(at, (char) (oneIn(3) ? less(128) : "()!&|<=>+-*0123456789hsptdkowfcmux".charAt(less(34))));
        }
        if (text.length() > 70 && !oneIn(5)) text.setLength(less(50));
        int d = less(6);
        call("tape", d, 1, Math.min(100, text.length()));
        for (int i = 0; i < text.length(); i++) call("put", d, i, text.charAt(i));
        call("law", from(0, 2), oneIn(5) ? day() : slow.s.hour / 24, d);
    }

    private void stepTapes() {
        switch (less(9)) {
            case 0: call("tape", tapeNo(), from(1, 5), oneIn(8) ? from(0, 100) : less(12)); break;
            case 1: call("put", tapeNo(), oneIn(8) ? from(0, 99) : less(12), oneIn(2) ? less(400) - 200 : random.nextLong()); break;
            case 2: call("at", tapeNo(), from(0, 12)); break;
            case 3: call("copy", tapeNo(), less(5), tapeNo(), less(5), oneIn(9) ? from(0, 100) : less(6)); break;
            case 4: call("keep", tapeNo()); break;
            case 5: call("back", tapeNo()); break;
            case 6: call("toss", tapeNo()); break;
            case 7: call("clear", tapeNo()); break;
            default:
                int n = less(9);
                call("tape", 1, 5, n);
                for (int i = 0; i < n; i++) if (oneIn(2)) call("put", 1, i, 1);
                call("judge", 1, oneIn(3) ? from(0, 9999999) : less(2000));
        }
    }

    private void stepHouses() {
        long c = cell();
        switch (less(8)) {
            case 0: call("lift", c, oneIn(3) ? cell() : neighbour(c), oneIn(3) ? from(1, 9999) : 1 + less(300), oneIn(3) ? from(0, 9999) : less(20)); break;
            case 1: call("out", c, oneIn(3) ? from(1, 9999) : 1 + less(200), oneIn(3) ? from(1, 9999) : 1 + less(100), oneIn(3) ? from(-128, 127) : less(20)); break;
            case 2: call("coal", c, from(1, 9999)); break;
            case 3: call("stop", c, less(2)); break;
            case 4: call("lasts", c, from(0, 30)); break;
            case 5: call("house", c, from(0, 3)); break;
            case 6: call("rain", oneIn(3) ? from(0, 200) : less(50)); break;
            default: call("of", c, from(0, 16));
        }
    }

    private void stepLines() {
        long c = cell();
        switch (less(12)) {
            case 0: drive(); break;
            case 1: call("lineOf", line(), from(0, 6), from(0, 6)); break;
            case 2: call("size", line()); break;
            case 3: call("gangs", line(), from(0, 4)); break;
            case 4: call("kiln", oneIn(3) ? from(0, 9999) : less(2000)); break;
            case 5: call("bad", line(), from(0, 4), less(2)); break;
            case 6: call("bears", line(), from(0, 4)); break;
            case 7: call("carries", line()); break;
            case 8: call("cross", line(), from(0, 4), day()); break;
            case 9: call("bridge", c); break;
            case 10: call("cutOff"); break;
            default: call("best", oneIn(2) ? less(3000) : from(0, 9999999), from(0, 2));
        }
    }

    private void stepCity() {
        long c = cell();
        int[] most = {300, 3, 9999, 99, 1, 1};
        switch (less(13)) {
            case 0:
            case 1:
                int what = less(6);
                if (what == 0 && !oneIn(4)) call("set", c, 0, 80 + less(50));
                else if (what == 4 && !oneIn(4)) call("set", c, 4, 0);
                else call("set", c, oneIn(30) ? from(0, 5) : what, from(0, most[what]));
                break;
            case 2:
            case 3: call("old", c, neighbour(c), from(0, 300), from(0, 9)); break;
            case 4: call("map", c, neighbour(c), from(60, 120)); break;
            case 5: call("cut", c); break;
            case 6: call("mapOf", c, from(0, 1), day()); break;
            case 7: call("share", from(0, 9999999), from(0, 9)); break;
            case 8: call("inForce", from(0, 2), day()); break;
            case 9: call("holds", from(0, 2), c); break;
            case 10: call("level", from(0, 100000)); break;
            case 11: call("comesBack", from(0, 99999)); break;
            default: call("window", from(0, 99999), oneIn(2) ? from(-128, 127) : less(20));
        }
    }

    private void step() {
        int turn = less(100);
        if (turn < 22) stepLines();
        else if (turn < 40) stepHouses();
        else if (turn < 55) stepTapes();
        else if (turn < 80) stepCity();
        else if (turn < 96) call("hours", oneIn(6) ? from(1, 240) : oneIn(2) ? 24 : 1 + less(60));
        else if (turn < 98) pass();
        else if (turn == 98) call("count", from(0, 18));
        else if (oneIn(20)) call("begin");
        else layTide();
    }
}
