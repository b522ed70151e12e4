import java.io.ByteArrayInputStream;
import java.io.ByteArrayOutputStream;
import java.io.ObjectInputStream;
import java.io.ObjectOutputStream;
import java.io.Serializable;
import java.util.ArrayList;
import java.util.Arrays;
import java.util.HashSet;
import java.util.List;
import java.util.Set;
import java.util.TreeMap;

// The document once more, written for plainness alone: the tests hold LowFall against it.
// It takes the library, copies whole states, tries all ways, and shares no line with LowFall.
final class SlowFall {
    static final int NONE = -1, FULL = -2, UNABLE = -3, LATER = -4;
    static final int NOTHING = -11, CAST = -12, PLACE = -13, SIZE = -14, THROWN = -15, ZERO = -16;

    static final class Cell implements Serializable {
        int height = 100, soil, people, tender = 50, river, pump;
        int down = -1, invert, wide;
        long foul, rain, cellarFoul, cellarRain;
        boolean cracked;
        int ill;
    }

    static final class Told implements Serializable {
        int cell, down, invert, day;
    }

    static final class Piece implements Serializable {
        int cell, invert, dug, laid = -9;
        boolean wet, bad;
    }

    static final class Sewer implements Serializable {
        int width, cement, gangs;
        List<Piece> pieces = new ArrayList<>();
    }

    static final class Lift implements Serializable {
        int to, power, coal;
        boolean stopped;
    }

    static final class Out implements Serializable {
        int size, gate, sill;
        int foul, rain;
    }

    static final class State implements Serializable {
        int hour, kiln, make, bridge, rain;
        Cell[] cells = new Cell[100];
        List<Told> map = new ArrayList<>();
        List<Sewer> lines = new ArrayList<>();
        TreeMap<Integer, Lift> lifts = new TreeMap<>();
        TreeMap<Integer, Out> outs = new TreeMap<>();
        long foulMade, rainMade, dirt, sea, gone, back;
        int idle, builder, town;

        State() {
            for (int i = 0; i < 100; i++) cells[i] = new Cell();
        }
    }

    static final class Law {
        int kind, day;
        String text;
    }

    State s = new State();
    List<Law> laws = new ArrayList<>();
    int[] tide = {};
    List<int[]> way = new ArrayList<>(); // of each: cell, invert
    int refusals;
    Object[] held = new Object[6]; // null, a row of its sort, or the bytes of an image wrapped in a list

    static byte[] frozen(State s) {
        try {
            ByteArrayOutputStream bytes = new ByteArrayOutputStream();
            new ObjectOutputStream(bytes).writeObject(s);
            return bytes.toByteArray();
        } catch (Exception e) {
            throw new IllegalStateException(e);
        }
    }

    static State thawed(byte[] bytes) {
        try {
            return (State) new ObjectInputStream(new ByteArrayInputStream(bytes)).readObject();
        } catch (Exception e) {
            throw new IllegalStateException(e);
        }
    }

    // An image on a tape; a class of its own, so that no row of bytes is taken for one.
    static final class Image {
        final byte[] bytes;
        Image(byte[] bytes) { this.bytes = bytes; }
    }

    static boolean cellIs(int c) { return c >= 0 && c < 100; }

    static int near(int a, int b) { return Math.abs(a % 10 - b % 10) + Math.abs(a / 10 - b / 10); }

    static List<Integer> beside(int c) {
        List<Integer> list = new ArrayList<>();
        for (int other = 0; other < 100; other++) if (near(c, other) == 1) list.add(other);
        return list;
    }

    int day() { return s.hour / 24; }

    int refuse(int code) { refusals++; return code; }

    int begin() {
        s = new State();
        laws.clear();
        tide = new int[0];
        way = new ArrayList<>();
        refusals = 0;
        return 0;
    }

    int set(int cell, int what, int v) {
        int[] most = {300, 3, 9999, 99, 1, 1};
        if (!cellIs(cell) || what < 0 || what > 5 || v < 0 || v > most[what]) return NONE;
        int was = of(cell, what);
        Cell c = s.cells[cell];
        if (what == 0) c.height = v;
        if (what == 1) c.soil = v;
        if (what == 2) c.people = v;
        if (what == 3) c.tender = v;
        if (what == 4) c.river = v;
        if (what == 5) c.pump = v;
        return was;
    }

    int of(int cell, int what) {
        if (!cellIs(cell)) throw new IllegalArgumentException();
        if (what < 0 || what > 16) throw new IllegalStateException();
        Cell c = s.cells[cell];
        long[] all = {c.height, c.soil, c.people, c.tender, c.river, c.pump, c.down, c.invert, c.wide, c.foul, c.rain,
            c.cellarFoul, c.cellarRain, hold(cell), c.cracked ? 1 : 0, shut().contains(cell) ? 1 : 0, c.ill};
        return (int) all[what];
    }

    // ---- the tide

    int tide(int d) {
        if (d < 0 || d > 5) return NONE;
        if (held[d] == null) return refuse(NOTHING);
        if (!(held[d] instanceof byte[])) return refuse(CAST);
        byte[] row = (byte[]) held[d];
        if (row.length == 0 || row.length > 60) return FULL;
        tide = new int[row.length];
        for (int i = 0; i < row.length; i++) tide[i] = row[i];
        return row.length;
    }

    int levelOf(int hour) { return tide.length == 0 ? 0 : tide[hour % tide.length]; }

    int ebb(int hour) { return levelOf(hour) - levelOf(hour + 1); }

    int level(int hour) {
        if (hour < 0 || hour > 100000) throw new IllegalArgumentException();
        return levelOf(hour);
    }

    boolean returns(int hour) {
        int together = 0;
        boolean any = false;
        for (int i = 0; i < 12; i++) {
            together += ebb(hour + i);
            any |= together < 0;
        }
        return any;
    }

    int comesBack(int hour) {
        if (hour < 0 || hour > 99999) return NONE;
        return returns(hour) ? 1 : 0;
    }

    int window(int from, int sill) {
        if (from < 0 || from > 99999 || sill < -128 || sill > 127) return NONE;
        for (int i = 0; i < 100; i++) if (levelOf(from + i) < sill && !returns(from + i)) return from + i;
        return UNABLE;
    }

    // ---- old drains

    static boolean downIs(int cell, int down) { return down == -1 || cellIs(down) && beside(cell).contains(down); }

    int old(int cell, int down, int invert, int wide) {
        if (!cellIs(cell) || !downIs(cell, down) || invert < 0 || invert > 300 || wide < 0 || wide > 9) return NONE;
        s.cells[cell].down = down;
        s.cells[cell].invert = invert;
        s.cells[cell].wide = wide;
        return 0;
    }

    void tell(int cell, int down, int invert) {
        Told t = new Told();
        t.cell = cell;
        t.down = down;
        t.invert = invert;
        t.day = day();
        s.map.add(t);
    }

    Told asOf(int cell, int day) {
        Told found = null;
        for (Told t : s.map) if (t.cell == cell && t.day <= day) found = t;
        return found;
    }

    int map(int cell, int down, int invert) {
        if (!cellIs(cell) || !downIs(cell, down) || invert < 0 || invert > 300) return NONE;
        if (s.map.size() == 200) return FULL;
        tell(cell, down, invert);
        return s.map.size();
    }

    int cut(int cell) {
        if (!cellIs(cell)) return NONE;
        Told t = asOf(cell, day());
        Cell c = s.cells[cell];
        if (t != null && t.down == c.down && t.invert == c.invert) return 0;
        if (s.map.size() == 200) return FULL;
        tell(cell, c.down, c.invert);
        return 1;
    }

    int mapOf(int cell, int what, int day) {
        if (!cellIs(cell) || what < 0 || what > 1 || day < 0 || day > 4999) return NONE;
        Told t = asOf(cell, day);
        return t == null ? -9 : what == 0 ? t.down : t.invert;
    }

    // ---- routes: every way is walked

    int digOf(int cell, int invert) {
        Cell c = s.cells[cell];
        int depth = c.height - invert;
        return depth > 0 ? depth * (2 + c.soil) : 9 * (invert - c.height);
    }

    List<int[]> bestWay;
    int bestDig;

    void walk(List<int[]> so, int dig, int b, int z, int f) {
        int[] last = so.get(so.size() - 1);
        if (last[0] == b) {
            // Ways come in their order by cells: only a lesser dig puts an earlier one out.
            if (bestWay == null || dig < bestDig) {
                bestWay = new ArrayList<>(so);
                bestDig = dig;
            }
            return;
        }
        for (int next : beside(last[0])) {
            if (near(next, b) >= near(last[0], b)) continue;
            int invert = z - f * so.size();
            if (invert < 0 || s.cells[next].river == 1 && next != b) continue;
            so.add(new int[] {next, invert});
            walk(so, dig + digOf(next, invert), b, z, f);
            so.remove(so.size() - 1);
        }
    }

    int route(int a, int b, int z, int f) {
        if (!cellIs(a) || !cellIs(b) || a == b || z < 0 || z > 300 || f < 1 || f > 9) return NONE;
        bestWay = null;
        if (s.cells[a].river == 0) {
            List<int[]> so = new ArrayList<>();
            so.add(new int[] {a, z});
            walk(so, digOf(a, z), b, z, f);
        }
        if (bestWay == null) return UNABLE;
        way = bestWay;
        return bestDig;
    }

    int way(int i) { return i < 0 || i >= way.size() ? -9 : way.get(i)[0]; }

    int take(int width, int cement) {
        if (width < 1 || width > 9 || cement < 0 || cement > 1) return NONE;
        if (way.isEmpty()) return UNABLE;
        if (s.lines.size() == 8) return FULL;
        Sewer line = new Sewer();
        line.width = width;
        line.cement = cement;
        for (int[] w : way) {
            Piece p = new Piece();
            p.cell = w[0];
            p.invert = w[1];
            line.pieces.add(p);
        }
        s.lines.add(line);
        return s.lines.size() - 1;
    }

    boolean lineIs(int line) { return line >= 0 && line < s.lines.size(); }

    boolean pieceIs(int line, int i) { return lineIs(line) && i >= 0 && i < s.lines.get(line).pieces.size(); }

    int lineOf(int line, int i, int what) {
        if (!lineIs(line) || what < 0 || what > 6) throw new IllegalArgumentException();
        if (!pieceIs(line, i)) throw new IllegalStateException();
        Piece p = s.lines.get(line).pieces.get(i);
        int[] all = {p.cell, p.invert, digOf(p.cell, p.invert), p.dug, p.laid, p.wet ? 1 : 0, p.bad ? 1 : 0};
        return all[what];
    }

    int size(int line) { return lineIs(line) ? s.lines.get(line).pieces.size() : NONE; }

    int gangs(int line, int n) {
        if (!lineIs(line) || n < 0 || n > 4) return NONE;
        int was = s.lines.get(line).gangs;
        s.lines.get(line).gangs = n;
        return was;
    }

    int kiln(int make) {
        if (make < 0 || make > 9999) return NONE;
        int was = s.make;
        s.make = make;
        return was;
    }

    int bad(int line, int i, boolean on) {
        if (!pieceIs(line, i)) return NONE;
        Piece p = s.lines.get(line).pieces.get(i);
        if (p.laid == -9) return LATER;
        if (p.bad == on) return 0;
        p.bad = on;
        return 1;
    }

    int depth(Piece p) { return s.cells[p.cell].height - p.invert; }

    boolean bearsOn(Sewer line, Piece p, int day) {
        int age = day - p.laid;
        int strength;
        if (line.cement == 0) {
            strength = Math.min(100, 2 * age);
            if (p.wet) strength = strength / 2;
        } else {
            strength = Math.min(300, 10 + 6 * age);
        }
        if (p.bad) strength = strength / 2;
        return strength >= depth(p);
    }

    int bears(int line, int i) {
        if (!pieceIs(line, i)) return NONE;
        Piece p = s.lines.get(line).pieces.get(i);
        if (p.laid == -9) return LATER;
        for (int day = p.laid; day <= 9999; day++) if (bearsOn(s.lines.get(line), p, day)) return day;
        return UNABLE;
    }

    boolean carrying(Sewer line) {
        for (Piece p : line.pieces) if (p.laid == -9 || !bearsOn(line, p, day())) return false;
        return true;
    }

    int carries(int line) { return !lineIs(line) ? NONE : carrying(s.lines.get(line)) ? 1 : 0; }

    int cross(int line, int i, int day) {
        if (!pieceIs(line, i) || day < 0 || day > 4999) return NONE;
        Piece p = s.lines.get(line).pieces.get(i);
        Told t = asOf(p.cell, day);
        if (t == null || t.down == -1) return 0;
        if (p.invert >= t.invert + 3) return 1;
        if (p.invert <= t.invert - 3) return 2;
        return 3;
    }

    // ---- houses

    int rain(int r) {
        if (r < 0 || r > 200) return NONE;
        int was = s.rain;
        s.rain = r;
        return was;
    }

    int others(int cell) {
        Set<Integer> cells = new HashSet<>(s.lifts.keySet());
        cells.addAll(s.outs.keySet());
        cells.remove(cell);
        return cells.size();
    }

    int lift(int cell, int to, int power, int coal) {
        if (!cellIs(cell) || !cellIs(to) || power < 1 || power > 9999 || coal < 0 || coal > 9999 || to == cell) return NONE;
        if (s.outs.containsKey(cell)) return UNABLE;
        if (others(cell) >= 12) return FULL;
        Lift lift = new Lift();
        lift.to = to;
        lift.power = power;
        lift.coal = coal;
        s.lifts.put(cell, lift);
        return 0;
    }

    int coal(int cell, int n) {
        if (!cellIs(cell) || n < 1 || n > 9999 || !s.lifts.containsKey(cell)) return NONE;
        Lift lift = s.lifts.get(cell);
        if (lift.coal + n > 99999) return FULL;
        lift.coal += n;
        return lift.coal;
    }

    int stop(int cell, boolean on) {
        if (!cellIs(cell) || !s.lifts.containsKey(cell)) return NONE;
        Lift lift = s.lifts.get(cell);
        if (lift.stopped == on) return 0;
        lift.stopped = on;
        return 1;
    }

    int lasts(int cell, int n) {
        if (!cellIs(cell) || n < 0) return NONE;
        long has = s.cells[cell].foul + s.cells[cell].rain;
        int hold = hold(cell);
        if (has >= hold) return 0;
        if (n == 0) return refuse(ZERO);
        int hours = 0;
        while (has < hold) {
            has += n;
            hours++;
        }
        return hours;
    }

    int out(int cell, int size, int gate, int sill) {
        if (!cellIs(cell) || size < 1 || size > 9999 || gate < 1 || gate > 9999 || sill < -128 || sill > 127) return NONE;
        if (s.lifts.containsKey(cell)) return UNABLE;
        if (others(cell) >= 12) return FULL;
        Out out = s.outs.getOrDefault(cell, new Out());
        out.size = size;
        out.gate = gate;
        out.sill = sill;
        s.outs.put(cell, out);
        while (out.foul + out.rain > size) {
            if (out.rain > 0) {
                out.rain--;
                s.cells[cell].rain++;
            } else {
                out.foul--;
                s.cells[cell].foul++;
            }
        }
        return 0;
    }

    int house(int cell, int what) {
        if (!cellIs(cell) || what < 0 || what > 3) throw new IllegalArgumentException();
        Out out = s.outs.get(cell);
        Lift lift = s.lifts.get(cell);
        if (what < 2 ? out == null : lift == null) throw new IllegalStateException();
        if (what == 0) return out.foul;
        if (what == 1) return out.rain;
        return what == 2 ? lift.coal : lift.stopped ? 1 : 0;
    }

    // ---- hours

    Sewer firstOn(int cell, List<Sewer> carrying) {
        for (Sewer line : carrying) for (Piece p : line.pieces) if (p.cell == cell) return line;
        return null;
    }

    List<Sewer> carryingNow() {
        List<Sewer> list = new ArrayList<>();
        for (Sewer line : s.lines) if (carrying(line)) list.add(line);
        return list;
    }

    int hold(int cell) { return hold(cell, carryingNow()); }

    int hold(int cell, List<Sewer> carrying) {
        Sewer line = firstOn(cell, carrying);
        return 50 + 40 * s.cells[cell].wide + (line == null ? 0 : 60 * line.width);
    }

    // Where a cell lets on to (-1 nowhere), and how much at most.
    int[] leads(int cell, List<Sewer> carrying) {
        Sewer line = firstOn(cell, carrying);
        if (line != null && line.pieces.get(line.pieces.size() - 1).cell != cell) {
            int i = 0;
            while (line.pieces.get(i).cell != cell) i++;
            return new int[] {line.pieces.get(i + 1).cell, 30 * line.width * line.width};
        }
        return new int[] {s.cells[cell].down, 20 * s.cells[cell].wide * s.cells[cell].wide};
    }

    void arrive(int cell, long foul, long rain) {
        if (s.cells[cell].river == 1) {
            s.dirt += foul;
            s.sea += rain;
        } else {
            s.cells[cell].foul += foul;
            s.cells[cell].rain += rain;
        }
    }

    void passHour() {
        s.hour++;
        List<Sewer> carrying = carryingNow();
        for (Cell c : s.cells) {
            if (c.river == 1) continue;
            c.foul += c.people / 100;
            c.rain += s.rain;
            s.foulMade += c.people / 100;
            s.rainMade += s.rain;
        }
        List<long[]> moves = new ArrayList<>();
        for (int i = 0; i < 100; i++) {
            if (s.lifts.containsKey(i) || s.outs.containsKey(i)) continue;
            int[] lead = leads(i, carrying);
            if (lead[0] < 0) continue;
            long foul = Math.min(lead[1], s.cells[i].foul);
            long rain = Math.min(lead[1] - foul, s.cells[i].rain);
            moves.add(new long[] {i, lead[0], foul, rain});
        }
        for (long[] m : moves) {
            s.cells[(int) m[0]].foul -= m[2];
            s.cells[(int) m[0]].rain -= m[3];
        }
        for (long[] m : moves) arrive((int) m[1], m[2], m[3]);
        for (int i : s.lifts.keySet()) {
            Lift lift = s.lifts.get(i);
            if (lift.stopped) continue;
            int foul = 0, rain = 0;
            while (foul + rain < lift.power && foul + rain < 100 * lift.coal && foul + rain < s.cells[i].foul + s.cells[i].rain) {
                if (foul < s.cells[i].foul) foul++;
                else rain++;
            }
            s.cells[i].foul -= foul;
            s.cells[i].rain -= rain;
            arrive(lift.to, foul, rain);
            for (int begun = 0; begun < foul + rain; begun += 100) lift.coal--;
        }
        for (int i : s.outs.keySet()) {
            Out out = s.outs.get(i);
            Cell c = s.cells[i];
            while (out.foul + out.rain < out.size && c.foul + c.rain > 0) {
                if (c.foul > 0) {
                    c.foul--;
                    out.foul++;
                } else {
                    c.rain--;
                    out.rain++;
                }
            }
            if (!lawHolds(2, i) || levelOf(s.hour) >= out.sill) continue;
            for (int ton = 0; ton < out.gate; ton++) {
                if (out.foul > 0) {
                    out.foul--;
                    if (returns(s.hour)) s.back++;
                    else s.gone++;
                } else if (out.rain > 0) {
                    out.rain--;
                    s.sea++;
                }
            }
        }
        for (int i = 0; i < 100; i++) {
            Cell c = s.cells[i];
            int hold = hold(i, carrying);
            while (c.foul + c.rain > hold) {
                if (c.rain > 0) {
                    c.rain--;
                    c.cellarRain++;
                } else {
                    c.foul--;
                    c.cellarFoul++;
                }
            }
            if (c.cellarFoul + c.cellarRain == 0) continue;
            long missing = hold - c.foul - c.rain;
            for (int ton = 0; ton < Math.min(5, missing); ton++) {
                if (c.cellarFoul > 0) {
                    c.cellarFoul--;
                    c.foul++;
                } else if (c.cellarRain > 0) {
                    c.cellarRain--;
                    c.rain++;
                }
            }
        }
        if (s.hour % 24 == 0) {
            work();
            drink();
        }
    }

    Piece inWork(Sewer line) {
        for (int i = line.pieces.size() - 1; i >= 0; i--) if (line.pieces.get(i).laid == -9) return line.pieces.get(i);
        return null;
    }

    void work() {
        s.kiln += s.make;
        for (Sewer line : s.lines) {
            Piece p = inWork(line);
            if (p == null || line.gangs == 0) continue;
            int dig = digOf(p.cell, p.invert);
            if (!lawHolds(0, p.cell)) {
                s.idle += line.gangs;
            } else if (p.dug < dig) {
                p.dug += 40 * line.gangs;
                if (p.dug < dig) continue;
                int pull = depth(p) * (1 + s.cells[p.cell].soil);
                crack(p.cell, (int) Math.floor(pull / 2.0));
                for (int b : beside(p.cell)) crack(b, (int) Math.floor(pull / 4.0));
            } else if (s.kiln >= 100 * line.width) {
                s.kiln -= 100 * line.width;
                p.laid = day();
                p.wet = s.cells[p.cell].foul > 0 || s.cells[p.cell].rain > 0;
            } else {
                s.idle += line.gangs;
            }
        }
    }

    void crack(int cell, int pull) {
        Cell c = s.cells[cell];
        if (c.people == 0 || pull <= c.tender || c.cracked) return;
        c.cracked = true;
        int owed = c.people * (pull - c.tender);
        if (lawHolds(1, cell)) s.builder += owed;
        else s.town += owed;
    }

    void drink() {
        for (int i = 0; i < 100; i++) {
            if (s.cells[i].people == 0) continue;
            int nearest = -1;
            for (int p = 99; p >= 0; p--) {
                if (s.cells[p].pump == 1 && (nearest < 0 || near(i, p) <= near(i, nearest))) nearest = p;
            }
            if (nearest < 0) continue;
            boolean bad = s.cells[nearest].cellarFoul > 0;
            for (int b : beside(nearest)) bad |= s.cells[b].cellarFoul > 0;
            if (bad) s.cells[nearest].ill += s.cells[i].people / 50;
        }
    }

    int hours(int n) {
        if (n < 1 || n > 240) return NONE;
        if (s.hour + n > 99999) return FULL;
        for (int i = 0; i < n; i++) passHour();
        return s.hour;
    }

    int bridge(int cell) {
        if (!cellIs(cell)) return NONE;
        int was = s.bridge;
        s.bridge = cell;
        return was;
    }

    Set<Integer> shut() {
        Set<Integer> cells = new HashSet<>();
        for (Sewer line : s.lines) if (line.gangs > 0 && inWork(line) != null) cells.add(inWork(line).cell);
        return cells;
    }

    int cutOff() {
        Set<Integer> shut = shut();
        int sum = 0;
        for (int i = 0; i < 100; i++) {
            if (s.cells[i].people == 0 || s.cells[i].river == 1) continue;
            if (!reaches(i, shut, new HashSet<>())) sum++;
        }
        return sum;
    }

    boolean reaches(int cell, Set<Integer> shut, Set<Integer> seen) {
        if (shut.contains(cell) || s.cells[cell].river == 1 || !seen.add(cell)) return false;
        if (cell == s.bridge) return true;
        for (int b : beside(cell)) if (reaches(b, shut, seen)) return true;
        return false;
    }

    // ---- laws: a reader that only says yes or no, and a fault where no ending could mend the text

    static final class Reader {
        final String text;
        int place;
        boolean wrong;
        final SlowFall city; // null: only whether it can be read
        final int cell;

        Reader(String text, SlowFall city, int cell) {
            this.text = text;
            this.city = city;
            this.cell = cell;
        }

        char now() { return place < text.length() ? text.charAt(place) : 0; }

        boolean whole() {
            boolean answer = ors(0);
            if (place != text.length()) wrong = true;
            return answer;
        }

        boolean ors(int depth) {
            boolean answer = ands(depth);
            while (!wrong && now() == '|') {
                place++;
                boolean other = ands(depth);
                answer = answer || other;
            }
            return answer;
        }

        boolean ands(int depth) {
            boolean answer = test(depth);
            while (!wrong && now() == '&') {
                place++;
                boolean other = test(depth);
                answer = answer && other;
            }
            return answer;
        }

        boolean test(int depth) {
            if (wrong) return false;
            if (now() == '!' || now() == '(') {
                if (depth + 1 > 5) {
                    wrong = true;
                    return false;
                }
                boolean not = now() == '!';
                place++;
                boolean answer = not ? !test(depth + 1) : ors(depth + 1);
                if (!not && now() != ')') wrong = true;
                if (!not) place++;
                return answer;
            }
            long left = sum();
            char sign = now();
            if (sign != '<' && sign != '>' && sign != '=') {
                wrong = true;
                return false;
            }
            place++;
            long right = sum();
            return sign == '<' ? left < right : sign == '>' ? left > right : left == right;
        }

        long sum() {
            long sum = unit();
            while (!wrong && (now() == '+' || now() == '-' || now() == '*')) {
                char sign = now();
                place++;
                long other = unit();
                sum = sign == '+' ? sum + other : sign == '-' ? sum - other : sum * other;
                if (sum > 1000000) sum = 1000000;
                if (sum < -1000000) sum = -1000000;
            }
            return sum;
        }

        long unit() {
            int from = place;
            while (now() >= '0' && now() <= '9') place++;
            if (place > from) {
                if (place - from > 4) {
                    wrong = true;
                    return 0;
                }
                return Integer.parseInt(text.substring(from, place));
            }
            char letter = now();
            if (letter == 0 || "hsptdkowfcmu".indexOf(letter) < 0) {
                wrong = true;
                return 0;
            }
            place++;
            return city == null ? 0 : city.fact(letter, cell);
        }
    }

    long fact(char letter, int cell) {
        Cell c = s.cells[cell];
        switch (letter) {
            case 'h': return c.height;
            case 's': return c.soil;
            case 'p': return c.people;
            case 't': return c.tender;
            case 'k': return day();
            case 'o': return s.hour - 24 * day();
            case 'w': return levelOf(s.hour);
            case 'f': return c.foul;
            case 'c': return c.cellarFoul + c.cellarRain;
            case 'm':
                int told = 0;
                for (Told t : s.map) if (t.cell == cell) told++;
                return told;
            case 'u':
                int shut = 0;
                for (int b : beside(cell)) if (shut().contains(b)) shut++;
                return shut;
            default:
                List<Integer> depths = new ArrayList<>();
                for (Sewer line : s.lines) for (Piece p : line.pieces) if (p.cell == cell) depths.add(depth(p));
                return depths.isEmpty() ? 0 : depths.stream().mapToInt(v -> v).max().getAsInt();
        }
    }

    static boolean readable(String text) {
        Reader reader = new Reader(text, null, 0);
        reader.whole();
        return !reader.wrong;
    }

    static boolean mendable(String text) {
        String[] middles = {"", "1", "=1", "1=1"};
        String ends = ")))))";
        for (String middle : middles) {
            for (int i = 0; i <= 5; i++) if (readable(text + middle + ends.substring(0, i))) return true;
        }
        return false;
    }

    static int firstFault(String text) {
        if (readable(text)) return -1;
        for (int i = 1; i <= text.length(); i++) if (!mendable(text.substring(0, i))) return i - 1;
        return text.length();
    }

    int law(int kind, int day, int d) {
        if (kind < 0 || kind > 2 || day < 0 || day > 4999 || d < 0 || d > 5) return NONE;
        if (day < day()) return LATER;
        if (held[d] == null) return refuse(NOTHING);
        if (!(held[d] instanceof byte[])) return refuse(CAST);
        StringBuilder text = new StringBuilder();
        for (byte b : (byte[]) held[d]) text.append(b <= 0 ? '?' : (char) b);
        int fault = firstFault(text.toString());
        if (fault >= 0) return -100 - fault;
        if (laws.size() == 20 || text.length() > 60) return FULL;
        Law law = new Law();
        law.kind = kind;
        law.day = day;
        law.text = text.toString();
        laws.add(law);
        return laws.size() - 1;
    }

    int inForceOn(int kind, int day) {
        for (int from = day; from >= 0; from--) {
            for (int i = laws.size() - 1; i >= 0; i--) {
                if (laws.get(i).kind == kind && laws.get(i).day == from) return i;
            }
        }
        return -9;
    }

    int inForce(int kind, int day) {
        if (kind < 0 || kind > 2 || day < 0 || day > 4999) return NONE;
        return inForceOn(kind, day);
    }

    boolean lawHolds(int kind, int cell) {
        int law = inForceOn(kind, day());
        if (law < 0) return kind != 1;
        return new Reader(laws.get(law).text, this, cell).whole();
    }

    int holds(int kind, int cell) {
        if (kind < 0 || kind > 2 || !cellIs(cell)) return NONE;
        return lawHolds(kind, cell) ? 1 : 0;
    }

    // ---- choices

    int cost(Sewer line) {
        int cost = 0;
        for (Piece p : line.pieces) cost += digOf(p.cell, p.invert) + 10 * line.width;
        return cost;
    }

    boolean fouled(int start, List<Sewer> choice) {
        int c = start;
        for (int step = 0; step < 200; step++) {
            if (s.outs.containsKey(c)) return false;
            c = s.lifts.containsKey(c) ? s.lifts.get(c).to : leads(c, choice)[0];
            if (c < 0) return false;
            if (s.cells[c].river == 1) return true;
        }
        return false;
    }

    int fouledPeople(List<Sewer> choice) {
        int people = 0;
        for (int i = 0; i < 100; i++) {
            if (s.cells[i].people > 0 && s.cells[i].river == 0 && fouled(i, choice)) people += s.cells[i].people;
        }
        return people;
    }

    int best(int sum, int what) {
        if (sum < 0 || sum > 9999999 || what < 0 || what > 2) return NONE;
        int[] best = null;
        for (int bits = (1 << s.lines.size()) - 1; bits >= 0; bits--) {
            List<Sewer> choice = new ArrayList<>();
            int cost = 0;
            for (int i = 0; i < s.lines.size(); i++) {
                if ((bits & 1 << i) == 0) continue;
                choice.add(s.lines.get(i));
                cost += cost(s.lines.get(i));
            }
            if (cost > sum) continue;
            int[] now = {fouledPeople(choice), cost, bits};
            if (best == null || Arrays.compare(now, best) < 0) best = now;
        }
        return what == 0 ? best[2] : what == 1 ? best[0] : best[1];
    }

    int judge(int d, int sum) {
        if (d < 0 || d > 5 || sum < 0 || sum > 9999999) return NONE;
        if (held[d] == null) return refuse(NOTHING);
        if (!(held[d] instanceof boolean[])) return refuse(CAST);
        boolean[] row = (boolean[]) held[d];
        List<Sewer> choice = new ArrayList<>();
        int cost = 0;
        for (int i = 0; i < s.lines.size(); i++) {
            if (i == row.length) return refuse(PLACE);
            if (!row[i]) continue;
            choice.add(s.lines.get(i));
            cost += cost(s.lines.get(i));
            if (cost > sum) return -100 - i;
        }
        return fouledPeople(choice);
    }

    int share(int sum, int y) {
        if (sum < 0 || sum > 9999999 || y < 0 || y > 9) return NONE;
        long[] people = new long[10];
        long all = 0;
        for (int i = 0; i < 100; i++) {
            people[i / 10] += s.cells[i].people;
            all += s.cells[i].people;
        }
        if (all == 0) return refuse(ZERO);
        long[] share = new long[10], over = new long[10];
        long left = sum;
        for (int v = 0; v < 10; v++) {
            share[v] = sum * people[v] / all;
            over[v] = sum * people[v] - share[v] * all;
            left -= share[v];
        }
        for (; left > 0; left--) {
            int greatest = 0;
            for (int v = 1; v < 10; v++) if (over[v] > over[greatest]) greatest = v;
            share[greatest]++;
            over[greatest] = -1;
        }
        return (int) share[y];
    }

    // ---- tapes

    int tape(int d, int sort, int n) {
        if (d < 0 || d > 5 || sort < 1 || sort > 5 || n > 100) return NONE;
        if (n < 0) return refuse(SIZE);
        Object[] rows = {new byte[n], new short[n], new int[n], new long[n], new boolean[n]};
        held[d] = rows[sort - 1];
        return n;
    }

    int keep(int d) {
        if (d < 0 || d > 5) return NONE;
        held[d] = new Image(frozen(s));
        return s.hour;
    }

    int back(int d) {
        if (d < 0 || d > 5) return NONE;
        if (held[d] == null) return refuse(NOTHING);
        if (!(held[d] instanceof Image)) return refuse(CAST);
        s = thawed(((Image) held[d]).bytes);
        return s.hour;
    }

    int toss(int d) {
        if (d < 0 || d > 5) return NONE;
        if (held[d] == null) return refuse(NOTHING);
        if (!(held[d] instanceof Image)) return refuse(CAST);
        int cells = 0;
        for (Cell c : thawed(((Image) held[d]).bytes).cells) if (c.cellarFoul > 0) cells++;
        return cells == 0 ? refuse(THROWN) : cells;
    }

    int sortOf(Object held) {
        if (held == null) return 0;
        if (held instanceof byte[]) return 1;
        if (held instanceof short[]) return 2;
        if (held instanceof int[]) return 3;
        if (held instanceof long[]) return 4;
        return held instanceof boolean[] ? 5 : 6;
    }

    int clear(int d) {
        if (d < 0 || d > 5) return NONE;
        int was = sortOf(held[d]);
        held[d] = null;
        return was;
    }

    static int lengthOf(Object row) { return java.lang.reflect.Array.getLength(row); }

    int put(int d, int i, long v) {
        if (d < 0 || d > 5) return NONE;
        int sort = sortOf(held[d]);
        if (sort == 0) return refuse(NOTHING);
        if (sort == 6) return refuse(CAST);
        if (i < 0 || i >= lengthOf(held[d])) return refuse(PLACE);
        if (sort == 1) ((byte[]) held[d])[i] = (byte) v;
        if (sort == 2) ((short[]) held[d])[i] = (short) v;
        if (sort == 3) ((int[]) held[d])[i] = (int) v;
        if (sort == 4) ((long[]) held[d])[i] = v;
        if (sort == 5) ((boolean[]) held[d])[i] = v != 0;
        return 1;
    }

    long at(int d, int i) {
        if (d < 0 || d > 5) throw new IllegalArgumentException();
        int sort = sortOf(held[d]);
        if (sort == 0 || sort == 6 || i < 0 || i >= lengthOf(held[d])) throw new IllegalStateException();
        if (sort == 5) return ((boolean[]) held[d])[i] ? 1 : 0;
        return java.lang.reflect.Array.getLong(held[d], i);
    }

    int copy(int d, int i, int e, int j, int n) {
        if (d < 0 || d > 5 || e < 0 || e > 5) return NONE;
        if (held[d] == null || held[e] == null) return refuse(NOTHING);
        if (sortOf(held[d]) == 6 || sortOf(held[e]) == 6 || sortOf(held[d]) != sortOf(held[e])) return refuse(CAST);
        if (n < 0 || i < 0 || j < 0) return refuse(PLACE);
        if ((long) i + n > lengthOf(held[d]) || (long) j + n > lengthOf(held[e])) return refuse(PLACE);
        long[] were = new long[n];
        for (int k = 0; k < n; k++) were[k] = at(d, i + k);
        for (int k = 0; k < n; k++) put(e, j + k, were[k]);
        return n;
    }

    int count(int what) {
        long foul = 0, rain = 0, cracked = 0, ill = 0;
        for (Cell c : s.cells) {
            foul += c.foul + c.cellarFoul;
            rain += c.rain + c.cellarRain;
            cracked += c.cracked ? 1 : 0;
            ill += c.ill;
        }
        for (Out out : s.outs.values()) {
            foul += out.foul;
            rain += out.rain;
        }
        long[] all = {s.hour, s.foulMade, s.rainMade, s.dirt, s.sea, s.gone, s.back, foul, rain, s.kiln, s.idle, s.builder,
            s.town, cracked, ill, s.lines.size(), laws.size(), s.map.size(), refusals};
        return what < 0 || what >= all.length ? NONE : (int) all[what];
    }
}
