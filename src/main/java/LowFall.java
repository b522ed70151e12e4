import java.util.Arrays;

// A city's foul water led under its streets: ../shared/DOC.md promises, README.md tells how to use it.
public final class LowFall {
    public static final int NONE = -1, FULL = -2, UNABLE = -3, LATER = -4;
    public static final int NOTHING = -11, CAST = -12, PLACE = -13, SIZE = -14, THROWN = -15, ZERO = -16;

    private static final int CELLS = 100, SIDE = 10, LONGEST = 19;
    private static final int LAST_HOUR = 99999, LAST_DAY = 4999, DAY_HOURS = 24, MOST_SUM = 9999999;
    private static final int LINES = 8, TELLINGS = 200, HOUSES = 12, LAWS = 20, TAPES = 6, VESTRIES = 10;
    private static final int LAW_BYTES = 60, TIDE_LEVELS = 60, ROW_MOST = 100;
    private static final int NOWHERE = -1, UNTOLD = -9;
    private static final int DIG = 0, OWE = 1, OPEN = 2;
    private static final int LIFT = 1, OUT = 2;
    private static final int BYTES = 1, SHORTS = 2, INTS = 3, LONGS = 4, BOOLEANS = 5, IMAGE = 6;

    private final City city = new City();
    private final Flow flow = new Flow();
    private final Tide theTide = new Tide();
    private final Route theRoute = new Route();
    private final Laws theLaws = new Laws();
    private final Tape[] tapes = new Tape[TAPES];
    private final int[] lineCost = new int[LINES];
    private int refusals = 0;
    private int bestBits = 0, bestFouled = 0, bestCost = 0;

    public LowFall() {
        for (int d = 0; d < TAPES; d++) tapes[d] = new Tape();
    }

    // ---- the whole, and its cells

    public int begin() {
        city.restart();
        theTide.length = 0;
        theRoute.length = 0;
        theLaws.number = 0;
        refusals = 0;
        return 0;
    }

    public int set(int cell, int what, int v) {
        int[] row = city.ground.rowToSet(what);
        if (!isCell(cell) || row == null) return NONE;
        if (!within(v, 0, mostOf(what))) return NONE;
        int was = row[cell];
        row[cell] = v;
        return was;
    }

    public int of(int cell, int what) throws IllegalArgumentException, IllegalStateException {
        if (!isCell(cell)) throw new IllegalArgumentException("no such cell");
        if (!within(what, 0, 16)) throw new IllegalStateException("no such what");
        if (what <= 8) return city.ground.told(cell, what);
        switch (what) {
            case 9: return city.water.foul[cell];
            case 10: return city.water.rain[cell];
            case 11: return city.water.cellarFoul[cell];
            case 12: return city.water.cellarRain[cell];
            case 13: return holdNow(cell);
            case 14: return city.ground.cracked[cell];
            case 15: return city.isShut(cell) ? 1 : 0;
            default: return city.ground.ill[cell];
        }
    }

    // ---- the tide

    public int tide(int d) {
        if (!isTape(d)) return NONE;
        Tape tape = tapes[d];
        if (tape.sort == 0) return refuse(NOTHING);
        if (tape.sort != BYTES) return refuse(CAST);
        if (!within(tape.length, 1, TIDE_LEVELS)) return FULL;
        theTide.learn(tape);
        return theTide.length;
    }

    public int level(int hour) throws IllegalArgumentException {
        if (!within(hour, 0, LAST_HOUR + 1)) throw new IllegalArgumentException("no such hour");
        return theTide.levelAt(hour);
    }

    public int comesBack(int hour) {
        if (!within(hour, 0, LAST_HOUR)) return NONE;
        return theTide.bringsBack(hour) ? 1 : 0;
    }

    public int window(int from, int sill) {
        if (!within(from, 0, LAST_HOUR) || !within(sill, -128, 127)) return NONE;
        for (int hour = from; hour < from + 100; hour++) {
            if (theTide.levelAt(hour) < sill && !theTide.bringsBack(hour)) return hour;
        }
        return UNABLE;
    }

    // ---- the old drains and the map of them

    public int old(int cell, int down, int invert, int wide) {
        if (!isCell(cell) || !isDown(cell, down)) return NONE;
        if (!within(invert, 0, 300) || !within(wide, 0, 9)) return NONE;
        city.ground.down[cell] = down;
        city.ground.invert[cell] = invert;
        city.ground.wide[cell] = wide;
        return 0;
    }

    public int map(int cell, int down, int invert) {
        if (!isCell(cell) || !isDown(cell, down) || !within(invert, 0, 300)) return NONE;
        if (city.oldMap.number >= TELLINGS) return FULL;
        city.oldMap.note(cell, down, invert, city.today());
        return city.oldMap.number;
    }

    public int cut(int cell) {
        if (!isCell(cell)) return NONE;
        OldMap oldMap = city.oldMap;
        int down = city.ground.down[cell], invert = city.ground.invert[cell];
        int telling = oldMap.latest(cell, city.today());
        if (telling >= 0 && oldMap.down[telling] == down && oldMap.invert[telling] == invert) return 0;
        if (oldMap.number >= TELLINGS) return FULL;
        oldMap.note(cell, down, invert, city.today());
        return 1;
    }

    public int mapOf(int cell, int what, int day) {
        if (!isCell(cell) || !within(what, 0, 1) || !within(day, 0, LAST_DAY)) return NONE;
        int telling = city.oldMap.latest(cell, day);
        if (telling < 0) return UNTOLD;
        return what == 0 ? city.oldMap.down[telling] : city.oldMap.invert[telling];
    }

    // ---- routes and lines

    public int route(int a, int b, int z, int f) {
        if (!isCell(a) || !isCell(b) || a == b || !within(z, 0, 300) || !within(f, 1, 9)) return NONE;
        if (z - f * near(a, b) < 0) return UNABLE;
        int dig = theRoute.leastDig(city.ground, a, b, z, f);
        if (dig >= Route.NO_WAY) return UNABLE;
        theRoute.follow(a, b, z, f);
        return dig;
    }

    public int way(int i) {
        return within(i, 0, theRoute.length - 1) ? theRoute.cell[i] : UNTOLD;
    }

    public int take(int width, int cement) {
        if (!within(width, 1, 9) || !within(cement, 0, 1)) return NONE;
        if (theRoute.length == 0) return UNABLE;
        if (city.lineCount >= LINES) return FULL;
        city.lines[city.lineCount].start(theRoute, width, cement);
        city.lineCount++;
        return city.lineCount - 1;
    }

    public int lineOf(int line, int i, int what) throws IllegalArgumentException, IllegalStateException {
        if (!isLine(line) || !within(what, 0, 6)) throw new IllegalArgumentException("no such line or what");
        if (!isOnLine(line, i)) throw new IllegalStateException("no such cell of the line");
        Line of = city.lines[line];
        switch (what) {
            case 0: return of.cell[i];
            case 1: return of.invert[i];
            case 2: return city.ground.digAt(of.cell[i], of.invert[i]);
            case 3: return of.dug[i];
            case 4: return of.laid[i];
            case 5: return of.wet[i];
            default: return of.bad[i];
        }
    }

    public int size(int line) {
        return isLine(line) ? city.lines[line].length : NONE;
    }

    public int gangs(int line, int n) {
        if (!isLine(line) || !within(n, 0, 4)) return NONE;
        int was = city.lines[line].gangs;
        city.lines[line].gangs = n;
        return was;
    }

    public int kiln(int make) {
        if (!within(make, 0, 9999)) return NONE;
        int was = city.make;
        city.make = make;
        return was;
    }

    public int bad(int line, int i, boolean on) {
        if (!isOnLine(line, i)) return NONE;
        Line of = city.lines[line];
        if (of.laid[i] == UNTOLD) return LATER;
        int told = on ? 1 : 0;
        if (of.bad[i] == told) return 0;
        of.bad[i] = told;
        return 1;
    }

    public int bears(int line, int i) {
        if (!isOnLine(line, i)) return NONE;
        Line of = city.lines[line];
        if (of.laid[i] == UNTOLD) return LATER;
        int day = of.firstBearing(i, city.depthOn(of, i));
        return day < 0 ? UNABLE : day;
    }

    public int carries(int line) {
        if (!isLine(line)) return NONE;
        return city.lineCarries(city.lines[line]) ? 1 : 0;
    }

    public int cross(int line, int i, int day) {
        if (!isOnLine(line, i) || !within(day, 0, LAST_DAY)) return NONE;
        Line of = city.lines[line];
        int telling = city.oldMap.latest(of.cell[i], day);
        if (telling < 0 || city.oldMap.down[telling] == NOWHERE) return 0;
        int above = of.invert[i] - city.oldMap.invert[telling];
        if (above >= 3) return 1;
        return above <= -3 ? 2 : 3;
    }

    // ---- water and the houses that move it

    public int rain(int r) {
        if (!within(r, 0, 200)) return NONE;
        int was = city.water.falls;
        city.water.falls = r;
        return was;
    }

    public int lift(int cell, int to, int power, int coal) {
        if (!isCell(cell) || !isCell(to) || !within(power, 1, 9999) || !within(coal, 0, 9999)) return NONE;
        if (to == cell) return NONE;
        Houses houses = city.houses;
        if (houses.kind[cell] == OUT) return UNABLE;
        if (houses.elsewhere(cell) >= HOUSES) return FULL;
        houses.kind[cell] = LIFT;
        houses.to[cell] = to;
        houses.power[cell] = power;
        houses.coal[cell] = coal;
        houses.stopped[cell] = 0;
        return 0;
    }

    public int coal(int cell, int n) {
        if (!isHouse(cell, LIFT) || !within(n, 1, 9999)) return NONE;
        if (city.houses.coal[cell] + n > 99999) return FULL;
        city.houses.coal[cell] += n;
        return city.houses.coal[cell];
    }

    public int stop(int cell, boolean on) {
        if (!isHouse(cell, LIFT)) return NONE;
        int told = on ? 1 : 0;
        if (city.houses.stopped[cell] == told) return 0;
        city.houses.stopped[cell] = told;
        return 1;
    }

    public int lasts(int cell, int n) {
        if (!isCell(cell) || n < 0) return NONE;
        long missing = holdNow(cell) - city.water.inDrain(cell);
        if (missing <= 0) return 0;
        if (n == 0) return refuse(ZERO);
        return (int) ((missing - 1) / n + 1);
    }

    public int out(int cell, int size, int gate, int sill) {
        if (!isCell(cell) || !within(size, 1, 9999) || !within(gate, 1, 9999)) return NONE;
        if (!within(sill, -128, 127)) return NONE;
        Houses houses = city.houses;
        if (houses.kind[cell] == LIFT) return UNABLE;
        if (houses.elsewhere(cell) >= HOUSES) return FULL;
        houses.kind[cell] = OUT;
        houses.size[cell] = size;
        houses.gate[cell] = gate;
        houses.sill[cell] = sill;
        spillTank(cell);
        return 0;
    }

    // What no longer has room in the tank is in the drain again, rain first.
    private void spillTank(int cell) {
        Houses houses = city.houses;
        int over = houses.tankFoul[cell] + houses.tankRain[cell] - houses.size[cell];
        if (over <= 0) return;
        int rain = Math.min(over, houses.tankRain[cell]);
        houses.tankRain[cell] -= rain;
        houses.tankFoul[cell] -= over - rain;
        city.water.rain[cell] += rain;
        city.water.foul[cell] += over - rain;
    }

    public int house(int cell, int what) throws IllegalArgumentException, IllegalStateException {
        if (!isCell(cell) || !within(what, 0, 3)) throw new IllegalArgumentException("no such cell or what");
        if (!isHouse(cell, what < 2 ? OUT : LIFT)) throw new IllegalStateException("none there");
        switch (what) {
            case 0: return city.houses.tankFoul[cell];
            case 1: return city.houses.tankRain[cell];
            case 2: return city.houses.coal[cell];
            default: return city.houses.stopped[cell];
        }
    }

    public int hours(int n) {
        if (!within(n, 1, 240)) return NONE;
        if (city.hour + n > LAST_HOUR) return FULL;
        for (int i = 0; i < n; i++) {
            city.hour++;
            int clock = city.hour % DAY_HOURS;
            // Which lines carry changes with the day and with the day's work only.
            if (i == 0 || clock < 2) flow.lead(city, city.carryingLines());
            flow.passHour(city, theLaws, theTide);
            if (clock == 0) {
                city.doDaysWork(theLaws, theTide);
                flow.drink(city);
            }
        }
        return city.hour;
    }

    public int bridge(int cell) {
        if (!isCell(cell)) return NONE;
        int was = city.bridge;
        city.bridge = cell;
        return was;
    }

    public int cutOff() {
        return flow.cellsCutOff(city);
    }

    // ---- laws

    public int law(int kind, int day, int d) {
        if (!within(kind, DIG, OPEN) || !within(day, 0, LAST_DAY) || !isTape(d)) return NONE;
        if (day < city.today()) return LATER;
        Tape tape = tapes[d];
        if (tape.sort == 0) return refuse(NOTHING);
        if (tape.sort != BYTES) return refuse(CAST);
        int fault = theLaws.firstFault(tape);
        if (fault >= 0) return -100 - fault;
        if (theLaws.number >= LAWS || tape.length > LAW_BYTES) return FULL;
        return theLaws.enact(kind, day);
    }

    public int inForce(int kind, int day) {
        if (!within(kind, DIG, OPEN) || !within(day, 0, LAST_DAY)) return NONE;
        int law = theLaws.ruling(kind, day);
        return law < 0 ? UNTOLD : law;
    }

    public int holds(int kind, int cell) {
        if (!within(kind, DIG, OPEN) || !isCell(cell)) return NONE;
        return theLaws.allow(kind, cell, city, theTide) ? 1 : 0;
    }

    // ---- choices and rates

    public int best(int sum, int what) {
        if (!within(sum, 0, MOST_SUM) || !within(what, 0, 2)) return NONE;
        findBest(sum);
        if (what == 0) return bestBits;
        return what == 1 ? bestFouled : bestCost;
    }

    private void findBest(int sum) {
        for (int k = 0; k < city.lineCount; k++) lineCost[k] = city.costOf(city.lines[k]);
        bestBits = 0;
        bestCost = 0;
        bestFouled = flow.peopleFouled(city, 0);
        for (int bits = 1; bits < 1 << city.lineCount; bits++) {
            int cost = 0;
            for (int k = 0; k < city.lineCount; k++) if ((bits >> k & 1) == 1) cost += lineCost[k];
            if (cost > sum) continue;
            int fouled = flow.peopleFouled(city, bits);
            if (fouled < bestFouled || fouled == bestFouled && cost < bestCost) {
                bestBits = bits;
                bestFouled = fouled;
                bestCost = cost;
            }
        }
    }

    public int judge(int d, int sum) {
        if (!isTape(d) || !within(sum, 0, MOST_SUM)) return NONE;
        Tape tape = tapes[d];
        if (tape.sort == 0) return refuse(NOTHING);
        if (tape.sort != BOOLEANS) return refuse(CAST);
        int bits = 0, cost = 0;
        for (int k = 0; k < city.lineCount && k < tape.length; k++) {
            if (tape.row[k] == 0) continue;
            bits |= 1 << k;
            cost += city.costOf(city.lines[k]);
            if (cost > sum) return -100 - k;
        }
        if (tape.length < city.lineCount) return refuse(PLACE);
        return flow.peopleFouled(city, bits);
    }

    public int share(int sum, int y) {
        if (!within(sum, 0, MOST_SUM) || !within(y, 0, VESTRIES - 1)) return NONE;
        long all = 0;
        for (int v = 0; v < VESTRIES; v++) all += city.ground.peopleOf(v);
        if (all <= 0) return refuse(ZERO);
        long mine = (long) sum * city.ground.peopleOf(y);
        long left = sum;
        int earlier = 0;
        for (int v = 0; v < VESTRIES; v++) {
            long parts = (long) sum * city.ground.peopleOf(v);
            left -= parts / all;
            long ahead = parts % all - mine % all;
            if (ahead > 0 || ahead == 0 && v < y) earlier++;
        }
        return (int) (mine / all) + (earlier < left ? 1 : 0);
    }

    // ---- tapes

    public int tape(int d, int sort, int n) {
        if (!isTape(d) || !within(sort, BYTES, BOOLEANS) || n > ROW_MOST) return NONE;
        if (n < 0) return refuse(SIZE);
        Tape tape = tapes[d];
        tape.sort = sort;
        tape.length = n;
        Arrays.fill(tape.row, 0L);
        return n;
    }

    public int keep(int d) {
        if (!isTape(d)) return NONE;
        Tape tape = tapes[d];
        // Made once for a tape and used again: images are the largest things here.
        if (tape.image == null) tape.image = new City();
        tape.image.become(city);
        tape.sort = IMAGE;
        tape.length = 0;
        return city.hour;
    }

    public int back(int d) {
        if (!isTape(d)) return NONE;
        Tape tape = tapes[d];
        if (tape.sort == 0) return refuse(NOTHING);
        if (tape.sort != IMAGE || tape.image == null) return refuse(CAST);
        city.become(tape.image);
        return city.hour;
    }

    public int toss(int d) {
        if (!isTape(d)) return NONE;
        Tape tape = tapes[d];
        if (tape.sort == 0) return refuse(NOTHING);
        if (tape.sort != IMAGE || tape.image == null) return refuse(CAST);
        int foul = tape.image.water.foulCellars();
        return foul == 0 ? refuse(THROWN) : foul;
    }

    public int clear(int d) {
        if (!isTape(d)) return NONE;
        int held = tapes[d].sort;
        tapes[d].sort = 0;
        tapes[d].length = 0;
        return held;
    }

    public int put(int d, int i, long v) {
        if (!isTape(d)) return NONE;
        Tape tape = tapes[d];
        if (tape.sort == 0) return refuse(NOTHING);
        if (tape.sort == IMAGE) return refuse(CAST);
        if (!within(i, 0, tape.length - 1)) return refuse(PLACE);
        tape.row[i] = tape.narrowed(v);
        return 1;
    }

    public long at(int d, int i) throws IllegalArgumentException, IllegalStateException {
        if (!isTape(d)) throw new IllegalArgumentException("no such tape");
        Tape tape = tapes[d];
        if (!tape.holdsRow() || !within(i, 0, tape.length - 1)) throw new IllegalStateException("no such place");
        return tape.row[i];
    }

    public int copy(int d, int i, int e, int j, int n) {
        if (!isTape(d) || !isTape(e)) return NONE;
        Tape from = tapes[d], onto = tapes[e];
        if (from.sort == 0 || onto.sort == 0) return refuse(NOTHING);
        if (!from.holdsRow() || from.sort != onto.sort) return refuse(CAST);
        if (n < 0 || i < 0 || j < 0 || i > from.length - n || j > onto.length - n) return refuse(PLACE);
        System.arraycopy(from.row, i, onto.row, j, n);
        return n;
    }

    public int count(int what) {
        switch (what) {
            case 0: return city.hour;
            case 1: return city.water.foulMade;
            case 2: return city.water.rainMade;
            case 3: return city.water.dirt;
            case 4: return city.water.sea;
            case 5: return city.water.gone;
            case 6: return city.water.cameBack;
            case 7: return city.foulInAll();
            case 8: return city.rainInAll();
            case 9: return city.bricks;
            case 10: return city.idle;
            case 11: return city.builderOwes;
            case 12: return city.townOwes;
            case 13: return sumOf(city.ground.cracked);
            case 14: return sumOf(city.ground.ill);
            case 15: return city.lineCount;
            case 16: return theLaws.number;
            case 17: return city.oldMap.number;
            case 18: return refusals;
            default: return NONE;
        }
    }

    // ---- tests of arguments, and small sums

    private int refuse(int code) {
        refusals++;
        return code;
    }

    private int holdNow(int cell) {
        flow.lead(city, city.carryingLines());
        return flow.hold[cell];
    }

    private boolean isLine(int line) {
        return within(line, 0, city.lineCount - 1);
    }

    private boolean isOnLine(int line, int i) {
        return isLine(line) && within(i, 0, city.lines[line].length - 1);
    }

    private boolean isHouse(int cell, int kind) {
        return isCell(cell) && city.houses.kind[cell] == kind;
    }

    private static boolean isTape(int d) {
        return within(d, 0, TAPES - 1);
    }

    private static boolean isCell(int cell) {
        return within(cell, 0, CELLS - 1);
    }

    private static boolean isDown(int cell, int down) {
        return down == NOWHERE || isCell(down) && near(cell, down) == 1;
    }

    private static boolean within(int v, int least, int most) {
        return v >= least && v <= most;
    }

    private static int mostOf(int what) {
        switch (what) {
            case 0: return 300;
            case 1: return 3;
            case 2: return 9999;
            case 3: return 99;
            default: return 1;
        }
    }

    private static int near(int a, int b) {
        return Math.abs(a % SIDE - b % SIDE) + Math.abs(a / SIDE - b / SIDE);
    }

    // The four cells by the sides of one, by their numbers (i 0 .. 3); NOWHERE beyond the edge.
    private static int beside(int cell, int i) {
        switch (i) {
            case 0: return cell >= SIDE ? cell - SIDE : NOWHERE;
            case 1: return cell % SIDE > 0 ? cell - 1 : NOWHERE;
            case 2: return cell % SIDE < SIDE - 1 ? cell + 1 : NOWHERE;
            default: return cell < CELLS - SIDE ? cell + SIDE : NOWHERE;
        }
    }

    private static int sumOf(int[] row) {
        int sum = 0;
        for (int v : row) sum += v;
        return sum;
    }

    private static void copyRow(int[] from, int[] onto) {
        System.arraycopy(from, 0, onto, 0, Math.min(from.length, onto.length));
    }

    // What stands at each cell: the ground, the old drain as it is, and what befell those who live there.
    private static final class Ground {
        final int[] height = new int[CELLS];
        final int[] soil = new int[CELLS];
        final int[] people = new int[CELLS];
        final int[] tender = new int[CELLS];
        final int[] river = new int[CELLS];
        final int[] pump = new int[CELLS];
        final int[] down = new int[CELLS];
        final int[] invert = new int[CELLS];
        final int[] wide = new int[CELLS];
        final int[] cracked = new int[CELLS];
        final int[] ill = new int[CELLS];

        void restart() {
            Arrays.fill(height, 100);
            Arrays.fill(soil, 0);
            Arrays.fill(people, 0);
            Arrays.fill(tender, 50);
            Arrays.fill(river, 0);
            Arrays.fill(pump, 0);
            Arrays.fill(down, NOWHERE);
            Arrays.fill(invert, 0);
            Arrays.fill(wide, 0);
            Arrays.fill(cracked, 0);
            Arrays.fill(ill, 0);
        }

        void become(Ground other) {
            copyRow(other.height, height);
            copyRow(other.soil, soil);
            copyRow(other.people, people);
            copyRow(other.tender, tender);
            copyRow(other.river, river);
            copyRow(other.pump, pump);
            copyRow(other.down, down);
            copyRow(other.invert, invert);
            copyRow(other.wide, wide);
            copyRow(other.cracked, cracked);
            copyRow(other.ill, ill);
        }

        int[] rowToSet(int what) {
            switch (what) {
                case 0: return height;
                case 1: return soil;
                case 2: return people;
                case 3: return tender;
                case 4: return river;
                case 5: return pump;
                default: return null;
            }
        }

        int told(int cell, int what) {
            int[] row = rowToSet(what);
            if (row != null) return row[cell];
            if (what == 6) return down[cell];
            return what == 7 ? invert[cell] : wide[cell];
        }

        int digAt(int cell, int atInvert) {
            int depth = height[cell] - atInvert;
            return depth > 0 ? depth * (2 + soil[cell]) : 9 * -depth;
        }

        int peopleOf(int vestry) {
            int sum = 0;
            for (int x = 0; x < SIDE; x++) sum += people[SIDE * vestry + x];
            return sum;
        }
    }

    // The water in drains and cellars, and what became of the rest.
    private static final class Water {
        final int[] foul = new int[CELLS];
        final int[] rain = new int[CELLS];
        final int[] cellarFoul = new int[CELLS];
        final int[] cellarRain = new int[CELLS];
        int falls = 0;
        int foulMade = 0, rainMade = 0;
        int dirt = 0, sea = 0, gone = 0, cameBack = 0;

        void restart() {
            Arrays.fill(foul, 0);
            Arrays.fill(rain, 0);
            Arrays.fill(cellarFoul, 0);
            Arrays.fill(cellarRain, 0);
            falls = 0;
            foulMade = 0;
            rainMade = 0;
            dirt = 0;
            sea = 0;
            gone = 0;
            cameBack = 0;
        }

        void become(Water other) {
            copyRow(other.foul, foul);
            copyRow(other.rain, rain);
            copyRow(other.cellarFoul, cellarFoul);
            copyRow(other.cellarRain, cellarRain);
            falls = other.falls;
            foulMade = other.foulMade;
            rainMade = other.rainMade;
            dirt = other.dirt;
            sea = other.sea;
            gone = other.gone;
            cameBack = other.cameBack;
        }

        // A long: foul and rain of the longest run together are more than an int holds.
        long inDrain(int cell) {
            return (long) foul[cell] + rain[cell];
        }

        long inCellars(int cell) {
            return (long) cellarFoul[cell] + cellarRain[cell];
        }

        void arrive(Ground ground, int cell, int foulTons, int rainTons) {
            if (ground.river[cell] == 1) {
                dirt += foulTons;
                sea += rainTons;
            } else {
                foul[cell] += foulTons;
                rain[cell] += rainTons;
            }
        }

        int foulCellars() {
            int cells = 0;
            for (int c = 0; c < CELLS; c++) if (cellarFoul[c] > 0) cells++;
            return cells;
        }
    }

    // Lifts and outs, at most one of them at a cell.
    private static final class Houses {
        final int[] kind = new int[CELLS];
        final int[] to = new int[CELLS];
        final int[] power = new int[CELLS];
        final int[] coal = new int[CELLS];
        final int[] stopped = new int[CELLS];
        final int[] size = new int[CELLS];
        final int[] gate = new int[CELLS];
        final int[] sill = new int[CELLS];
        final int[] tankFoul = new int[CELLS];
        final int[] tankRain = new int[CELLS];

        // The rest is told anew with each house; a tank alone is filled by what came before.
        void restart() {
            Arrays.fill(kind, 0);
            Arrays.fill(tankFoul, 0);
            Arrays.fill(tankRain, 0);
        }

        void become(Houses other) {
            copyRow(other.kind, kind);
            copyRow(other.to, to);
            copyRow(other.power, power);
            copyRow(other.coal, coal);
            copyRow(other.stopped, stopped);
            copyRow(other.size, size);
            copyRow(other.gate, gate);
            copyRow(other.sill, sill);
            copyRow(other.tankFoul, tankFoul);
            copyRow(other.tankRain, tankRain);
        }

        int elsewhere(int cell) {
            int others = 0;
            for (int c = 0; c < CELLS; c++) if (c != cell && kind[c] != 0) others++;
            return others;
        }
    }

    // The tellings of the map, in the order in which they were told (so their days never fall).
    private static final class OldMap {
        int number = 0;
        final int[] cell = new int[TELLINGS];
        final int[] down = new int[TELLINGS];
        final int[] invert = new int[TELLINGS];
        final int[] day = new int[TELLINGS];

        void become(OldMap other) {
            number = other.number;
            copyRow(other.cell, cell);
            copyRow(other.down, down);
            copyRow(other.invert, invert);
            copyRow(other.day, day);
        }

        void note(int atCell, int toDown, int atInvert, int onDay) {
            if (number >= TELLINGS) return;
            cell[number] = atCell;
            down[number] = toDown;
            invert[number] = atInvert;
            day[number] = onDay;
            number++;
        }

        int latest(int atCell, int asOf) {
            for (int t = number - 1; t >= 0; t--) if (cell[t] == atCell && day[t] <= asOf) return t;
            return -1;
        }

        int tellingsOf(int atCell) {
            int sum = 0;
            for (int t = 0; t < number; t++) if (cell[t] == atCell) sum++;
            return sum;
        }
    }

    // A route taken: what is dug and laid of it.
    private static final class Line {
        int width = 1, cement = 0, gangs = 0, length = 0;
        // Cells are laid from the end, so those that are not laid are the first ones.
        int unlaid = 0;
        final int[] cell = new int[LONGEST];
        final int[] invert = new int[LONGEST];
        final int[] dug = new int[LONGEST];
        final int[] laid = new int[LONGEST];
        final int[] wet = new int[LONGEST];
        final int[] bad = new int[LONGEST];

        void start(Route route, int ofWidth, int ofCement) {
            width = ofWidth;
            cement = ofCement;
            gangs = 0;
            length = route.length;
            unlaid = route.length;
            copyRow(route.cell, cell);
            copyRow(route.invert, invert);
            Arrays.fill(dug, 0);
            Arrays.fill(laid, UNTOLD);
            Arrays.fill(wet, 0);
            Arrays.fill(bad, 0);
        }

        void become(Line other) {
            width = other.width;
            cement = other.cement;
            gangs = other.gangs;
            length = other.length;
            unlaid = other.unlaid;
            copyRow(other.cell, cell);
            copyRow(other.invert, invert);
            copyRow(other.dug, dug);
            copyRow(other.laid, laid);
            copyRow(other.wet, wet);
            copyRow(other.bad, bad);
        }

        // The place of the cell in work, or -1 when all is laid.
        int inWork() {
            return unlaid <= LONGEST ? unlaid - 1 : -1;
        }

        int strength(int i, int age) {
            int s = cement == 0 ? Math.min(100, 2 * age) : Math.min(300, 10 + 6 * age);
            if (cement == 0 && wet[i] == 1) s /= 2;
            return bad[i] == 1 ? s / 2 : s;
        }

        // No strength grows beyond an age of 50 days, and no day when something is laid is near 9999.
        int firstBearing(int i, int depth) {
            for (int age = 0; age <= 50; age++) if (strength(i, age) >= depth) return laid[i] + age;
            return -1;
        }

        int placeOf(int atCell) {
            for (int i = 0; i < length && i < LONGEST; i++) if (cell[i] == atCell) return i;
            return -1;
        }
    }

    // All that an image keeps.
    private static final class City {
        final Ground ground = new Ground();
        final Water water = new Water();
        final Houses houses = new Houses();
        final OldMap oldMap = new OldMap();
        final Line[] lines = new Line[LINES];
        int lineCount = 0;
        int hour = 0;
        int bricks = 0, make = 0, bridge = 0;
        int idle = 0, builderOwes = 0, townOwes = 0;

        City() {
            for (int k = 0; k < LINES; k++) lines[k] = new Line();
            ground.restart();
        }

        void restart() {
            ground.restart();
            water.restart();
            houses.restart();
            oldMap.number = 0;
            lineCount = 0;
            hour = 0;
            bricks = 0;
            make = 0;
            bridge = 0;
            idle = 0;
            builderOwes = 0;
            townOwes = 0;
        }

        void become(City other) {
            ground.become(other.ground);
            water.become(other.water);
            houses.become(other.houses);
            oldMap.become(other.oldMap);
            lineCount = other.lineCount;
            for (int k = 0; k < lineCount; k++) lines[k].become(other.lines[k]);
            hour = other.hour;
            bricks = other.bricks;
            make = other.make;
            bridge = other.bridge;
            idle = other.idle;
            builderOwes = other.builderOwes;
            townOwes = other.townOwes;
        }

        int today() {
            return hour / DAY_HOURS;
        }

        int depthOn(Line line, int i) {
            return ground.height[line.cell[i]] - line.invert[i];
        }

        int costOf(Line line) {
            int cost = 0;
            for (int i = 0; i < line.length; i++) cost += ground.digAt(line.cell[i], line.invert[i]) + 10 * line.width;
            return cost;
        }

        boolean lineCarries(Line line) {
            if (line.unlaid > 0) return false;
            int day = today();
            for (int i = 0; i < line.length; i++) {
                if (line.strength(i, day - line.laid[i]) < depthOn(line, i)) return false;
            }
            return true;
        }

        // As bits: line k is 2 to the k.
        int carryingLines() {
            int bits = 0;
            for (int k = 0; k < lineCount; k++) if (lineCarries(lines[k])) bits |= 1 << k;
            return bits;
        }

        boolean isShut(int cell) {
            for (int k = 0; k < lineCount; k++) {
                Line line = lines[k];
                int i = line.inWork();
                if (line.gangs > 0 && i >= 0 && line.cell[i] == cell) return true;
            }
            return false;
        }

        int shutBeside(int cell) {
            int shut = 0;
            for (int i = 0; i < 4; i++) {
                int next = beside(cell, i);
                if (next != NOWHERE && isShut(next)) shut++;
            }
            return shut;
        }

        // The greatest depth of lines at a cell; 0 where there is none of them.
        int deepest(int cell) {
            int greatest = 0;
            boolean found = false;
            for (int k = 0; k < lineCount; k++) {
                int i = lines[k].placeOf(cell);
                if (i < 0) continue;
                int depth = depthOn(lines[k], i);
                if (!found || depth > greatest) greatest = depth;
                found = true;
            }
            return greatest;
        }

        int foulInAll() {
            return sumOf(water.foul) + sumOf(water.cellarFoul) + sumOf(houses.tankFoul);
        }

        int rainInAll() {
            return sumOf(water.rain) + sumOf(water.cellarRain) + sumOf(houses.tankRain);
        }

        void doDaysWork(Laws laws, Tide tide) {
            bricks += make;
            for (int k = 0; k < lineCount; k++) {
                Line line = lines[k];
                int i = line.inWork();
                if (line.gangs == 0 || i < 0) continue;
                int cell = line.cell[i];
                int dig = ground.digAt(cell, line.invert[i]);
                if (!laws.allow(DIG, cell, this, tide)) {
                    idle += line.gangs;
                } else if (line.dug[i] < dig) {
                    line.dug[i] += 40 * line.gangs;
                    if (line.dug[i] >= dig) pullWalls(cell, depthOn(line, i), laws, tide);
                } else if (bricks >= 100 * line.width) {
                    bricks -= 100 * line.width;
                    line.laid[i] = today();
                    line.wet[i] = water.inDrain(cell) > 0 ? 1 : 0;
                    line.unlaid--;
                } else {
                    idle += line.gangs;
                }
            }
        }

        private void pullWalls(int opened, int depth, Laws laws, Tide tide) {
            int pull = depth * (1 + ground.soil[opened]);
            for (int i = -1; i < 4; i++) {
                int cell = i < 0 ? opened : beside(opened, i);
                if (cell == NOWHERE || ground.cracked[cell] == 1 || ground.people[cell] == 0) continue;
                int above = pull / (i < 0 ? 2 : 4) - ground.tender[cell];
                if (above <= 0) continue;
                ground.cracked[cell] = 1;
                int owed = ground.people[cell] * above;
                if (laws.allow(OWE, cell, this, tide)) builderOwes += owed;
                else townOwes += owed;
            }
        }
    }

    // Where water goes from each cell when certain lines carry, and what an hour does with it.
    private static final class Flow {
        private static final int UNKNOWN = 0, WELL = 1, FOULED = 2;
        final int[] to = new int[CELLS];
        final int[] most = new int[CELLS];
        final int[] hold = new int[CELLS];
        private final int[] foulComing = new int[CELLS];
        private final int[] rainComing = new int[CELLS];
        private final int[] mark = new int[CELLS];
        private final int[] trail = new int[CELLS];

        void lead(City city, int bits) {
            Ground ground = city.ground;
            for (int c = 0; c < CELLS; c++) {
                int wide = ground.wide[c];
                to[c] = ground.down[c];
                most[c] = 20 * wide * wide;
                hold[c] = 50 + 40 * wide;
            }
            // From the last line on: so the first one that has a cell is what counts there.
            for (int k = city.lineCount - 1; k >= 0; k--) {
                if ((bits >> k & 1) == 1) leadLine(ground, city.lines[k]);
            }
        }

        private void leadLine(Ground ground, Line line) {
            for (int i = 0; i < line.length && i < LONGEST; i++) {
                int c = line.cell[i];
                int wide = ground.wide[c];
                boolean last = i + 1 >= line.length || i + 1 >= LONGEST;
                to[c] = last ? ground.down[c] : line.cell[i + 1];
                most[c] = last ? 20 * wide * wide : 30 * line.width * line.width;
                hold[c] = 50 + 40 * wide + 60 * line.width;
            }
        }

        void passHour(City city, Laws laws, Tide tide) {
            makeWater(city);
            letOn(city);
            liftWater(city);
            openGates(city, laws, tide);
            fillCellars(city.water);
        }

        private void makeWater(City city) {
            Water water = city.water;
            for (int c = 0; c < CELLS; c++) {
                if (city.ground.river[c] == 1) continue;
                int foul = city.ground.people[c] / 100;
                water.foul[c] += foul;
                water.rain[c] += water.falls;
                water.foulMade += foul;
                water.rainMade += water.falls;
            }
        }

        private void letOn(City city) {
            Water water = city.water;
            Arrays.fill(foulComing, 0);
            Arrays.fill(rainComing, 0);
            for (int c = 0; c < CELLS; c++) {
                int next = to[c];
                if (city.houses.kind[c] != 0 || !isCell(next)) continue;
                int foul = Math.min(water.foul[c], most[c]);
                int rain = Math.min(water.rain[c], most[c] - foul);
                water.foul[c] -= foul;
                water.rain[c] -= rain;
                foulComing[next] += foul;
                rainComing[next] += rain;
            }
            for (int c = 0; c < CELLS; c++) water.arrive(city.ground, c, foulComing[c], rainComing[c]);
        }

        private void liftWater(City city) {
            Water water = city.water;
            Houses houses = city.houses;
            for (int c = 0; c < CELLS; c++) {
                if (houses.kind[c] != LIFT || houses.stopped[c] == 1 || !isCell(houses.to[c])) continue;
                int tons = Math.min(houses.power[c], 100 * houses.coal[c]);
                int foul = Math.min(water.foul[c], tons);
                int rain = Math.min(water.rain[c], tons - foul);
                water.foul[c] -= foul;
                water.rain[c] -= rain;
                water.arrive(city.ground, houses.to[c], foul, rain);
                houses.coal[c] -= (foul + rain + 99) / 100;
            }
        }

        private void openGates(City city, Laws laws, Tide tide) {
            Houses houses = city.houses;
            int level = tide.levelAt(city.hour);
            for (int c = 0; c < CELLS; c++) {
                if (houses.kind[c] != OUT) continue;
                fillTank(city.water, houses, c);
                if (level >= houses.sill[c] || !laws.allow(OPEN, c, city, tide)) continue;
                int foul = Math.min(houses.tankFoul[c], houses.gate[c]);
                int rain = Math.min(houses.tankRain[c], houses.gate[c] - foul);
                houses.tankFoul[c] -= foul;
                houses.tankRain[c] -= rain;
                city.water.sea += rain;
                if (tide.bringsBack(city.hour)) city.water.cameBack += foul;
                else city.water.gone += foul;
            }
        }

        private void fillTank(Water water, Houses houses, int c) {
            int room = houses.size[c] - houses.tankFoul[c] - houses.tankRain[c];
            int foul = Math.min(water.foul[c], room);
            int rain = Math.min(water.rain[c], room - foul);
            water.foul[c] -= foul;
            water.rain[c] -= rain;
            houses.tankFoul[c] += foul;
            houses.tankRain[c] += rain;
        }

        private void fillCellars(Water water) {
            for (int c = 0; c < CELLS; c++) {
                long over = water.inDrain(c) - hold[c];
                int foul, rain;
                if (over > 0) {
                    rain = (int) Math.min(over, water.rain[c]);
                    foul = (int) (over - rain);
                } else {
                    int room = (int) Math.min(-over, 5);
                    foul = -Math.min(room, water.cellarFoul[c]);
                    rain = -Math.min(room + foul, water.cellarRain[c]);
                }
                water.foul[c] -= foul;
                water.rain[c] -= rain;
                water.cellarFoul[c] += foul;
                water.cellarRain[c] += rain;
            }
        }

        void drink(City city) {
            Ground ground = city.ground;
            int pumps = 0;
            for (int c = 0; c < CELLS; c++) {
                if (ground.pump[c] == 0) continue;
                mark[c] = isBadPump(city.water, c) ? 1 : 0;
                trail[pumps] = c;
                pumps++;
            }
            if (pumps == 0) return;
            for (int c = 0; c < CELLS; c++) {
                if (ground.people[c] == 0) continue;
                int nearest = trail[0];
                for (int p = 1; p < pumps; p++) if (near(c, trail[p]) < near(c, nearest)) nearest = trail[p];
                if (mark[nearest] == 1) ground.ill[nearest] += ground.people[c] / 50;
            }
        }

        private boolean isBadPump(Water water, int cell) {
            if (water.cellarFoul[cell] > 0) return true;
            for (int i = 0; i < 4; i++) {
                int next = beside(cell, i);
                if (next != NOWHERE && water.cellarFoul[next] > 0) return true;
            }
            return false;
        }

        int cellsCutOff(City city) {
            Ground ground = city.ground;
            for (int c = 0; c < CELLS; c++) mark[c] = ground.river[c] == 1 || city.isShut(c) ? 1 : 0;
            int known = 0;
            if (mark[city.bridge] == 0) {
                mark[city.bridge] = 2;
                trail[known] = city.bridge;
                known++;
            }
            for (int seen = 0; seen < known; seen++) {
                for (int i = 0; i < 4; i++) {
                    int next = beside(trail[seen], i);
                    if (next == NOWHERE || mark[next] != 0 || known >= CELLS) continue;
                    mark[next] = 2;
                    trail[known] = next;
                    known++;
                }
            }
            int cutOff = 0;
            for (int c = 0; c < CELLS; c++) {
                if (ground.people[c] > 0 && ground.river[c] == 0 && mark[c] != 2) cutOff++;
            }
            return cutOff;
        }

        int peopleFouled(City city, int bits) {
            lead(city, bits);
            Arrays.fill(mark, UNKNOWN);
            int people = 0;
            for (int c = 0; c < CELLS; c++) {
                if (city.ground.people[c] == 0 || city.ground.river[c] == 1) continue;
                if (traceIsFouled(city, c)) people += city.ground.people[c];
            }
            return people;
        }

        // A trace that comes twice to a cell goes round till its steps are spent, and ends unfouled:
        // so a cell is taken to be well from when a trace first comes to it.
        private boolean traceIsFouled(City city, int start) {
            int c = start, steps = 0, end = UNKNOWN;
            while (end == UNKNOWN && steps < CELLS) {
                if (mark[c] != UNKNOWN) {
                    end = mark[c];
                } else if (city.ground.river[c] == 1) {
                    end = FOULED;
                } else {
                    mark[c] = WELL;
                    trail[steps] = c;
                    steps++;
                    int next = city.houses.kind[c] == LIFT ? city.houses.to[c] : to[c];
                    if (city.houses.kind[c] == OUT || !isCell(next)) end = WELL;
                    else c = next;
                }
            }
            if (end != FOULED) return false;
            for (int i = 0; i < steps; i++) mark[trail[i]] = FOULED;
            return true;
        }
    }

    // The route that was found last, and the finding of it.
    private static final class Route {
        static final int NO_WAY = 1000000;
        int length = 0;
        final int[] cell = new int[LONGEST];
        final int[] invert = new int[LONGEST];
        private final int[] least = new int[CELLS];

        // The least dig from each cell between a and b on to b: from b back, so that each step is known before it is asked.
        int leastDig(Ground ground, int a, int b, int z, int f) {
            int wide = Math.abs(b % SIDE - a % SIDE), high = Math.abs(b / SIDE - a / SIDE);
            int stepX = b % SIDE > a % SIDE ? 1 : -1, stepY = b > a ? SIDE : -SIDE;
            Arrays.fill(least, NO_WAY);
            for (int y = high; y >= 0; y--) {
                for (int x = wide; x >= 0; x--) {
                    int c = a + x * stepX + y * stepY;
                    if (!isCell(c) || c != b && ground.river[c] == 1) continue;
                    int on = c == b ? 0 : NO_WAY;
                    if (x < wide && isCell(c + stepX)) on = Math.min(on, least[c + stepX]);
                    if (y < high && isCell(c + stepY)) on = Math.min(on, least[c + stepY]);
                    if (on < NO_WAY) least[c] = on + ground.digAt(c, z - f * (x + y));
                }
            }
            return least[a];
        }

        // Goes by what leastDig() left; of like ways the first by cells in order takes the lesser cell at each parting.
        void follow(int a, int b, int z, int f) {
            int c = a;
            length = near(a, b) + 1;
            for (int i = 0; i < length && i < LONGEST; i++) {
                cell[i] = c;
                invert[i] = z - f * i;
                c = nextCell(c, b);
            }
        }

        private int nextCell(int c, int b) {
            int chosen = c;
            for (int i = 0; i < 4; i++) {
                int next = beside(c, i);
                if (next == NOWHERE || near(next, b) >= near(c, b)) continue;
                if (chosen == c || least[next] < least[chosen]) chosen = next;
            }
            return chosen;
        }
    }

    // The levels of the tide, hour by hour and over again.
    private static final class Tide {
        int length = 0;
        private final int[] levels = new int[TIDE_LEVELS];

        void learn(Tape tape) {
            length = Math.min(tape.length, TIDE_LEVELS);
            for (int i = 0; i < length; i++) levels[i] = (int) tape.row[i];
        }

        int levelAt(int hour) {
            return length > 0 && hour >= 0 ? levels[hour % length] : 0;
        }

        // The ebbs of an hour and of those behind it are together what the level falls from it on.
        boolean bringsBack(int hour) {
            for (int behind = 1; behind <= 12; behind++) {
                if (levelAt(hour) - levelAt(hour + behind) < 0) return true;
            }
            return false;
        }
    }

    // The laws. A text is read once into steps for a stack: numbers, facts, and what is done with the topmost.
    private static final class Laws {
        private static final int FACT = 10000, DEED = 20000, NO_BYTE = 1000, DEEPEST = 5;
        private static final String FACTS = "hsptdkowfcmu";
        int number = 0;
        private final int[] kinds = new int[LAWS];
        private final int[] days = new int[LAWS];
        private final int[] stepCount = new int[LAWS];
        private final int[][] steps = new int[LAWS][LAW_BYTES];
        private final int[] draft = new int[ROW_MOST];
        private final long[] stack = new long[ROW_MOST];
        private final int[] text = new int[ROW_MOST];
        private int drafted = 0, end = 0, place = 0, fault = -1;

        // Keeps what firstFault() drafted.
        int enact(int kind, int day) {
            if (number >= LAWS) return FULL;
            kinds[number] = kind;
            days[number] = day;
            stepCount[number] = Math.min(drafted, LAW_BYTES);
            System.arraycopy(draft, 0, steps[number], 0, stepCount[number]);
            number++;
            return number - 1;
        }

        int ruling(int kind, int day) {
            int ruling = -1;
            for (int k = 0; k < number; k++) {
                if (kinds[k] != kind || days[k] > day) continue;
                if (ruling < 0 || days[k] >= days[ruling]) ruling = k;
            }
            return ruling;
        }

        boolean allow(int kind, int cell, City city, Tide tide) {
            int law = ruling(kind, city.today());
            if (law < 0) return kind != OWE;
            int top = 0;
            for (int i = 0; i < stepCount[law]; i++) {
                int step = steps[law][i];
                if (step < DEED) {
                    stack[top] = step < FACT ? step : factAt(step - FACT, cell, city, tide);
                    top++;
                } else if (step == DEED + '!') {
                    if (top > 0) stack[top - 1] = 1 - stack[top - 1];
                } else if (top > 1) {
                    top--;
                    stack[top - 1] = done(step - DEED, stack[top - 1], stack[top]);
                }
            }
            return stack[0] != 0;
        }

        private long factAt(int letter, int cell, City city, Tide tide) {
            switch (letter) {
                case 'h': return city.ground.height[cell];
                case 's': return city.ground.soil[cell];
                case 'p': return city.ground.people[cell];
                case 't': return city.ground.tender[cell];
                case 'd': return city.deepest(cell);
                case 'k': return city.today();
                case 'o': return city.hour % DAY_HOURS;
                case 'w': return tide.levelAt(city.hour);
                case 'f': return city.water.foul[cell];
                case 'c': return city.water.inCellars(cell);
                case 'm': return city.oldMap.tellingsOf(cell);
                default: return city.shutBeside(cell);
            }
        }

        private static long done(int deed, long a, long b) {
            switch (deed) {
                case '+': return bounded(a + b);
                case '-': return bounded(a - b);
                case '*': return bounded(a * b);
                case '<': return a < b ? 1 : 0;
                case '=': return a == b ? 1 : 0;
                case '>': return a > b ? 1 : 0;
                case '&': return a & b;
                default: return a | b;
            }
        }

        private static long bounded(long sum) {
            return Math.max(-1000000L, Math.min(1000000L, sum));
        }

        // The place of the first byte of a row that can't stand in a law; -1 where all of them can.
        int firstFault(Tape tape) {
            end = Math.min(tape.length, ROW_MOST);
            for (int i = 0; i < end; i++) text[i] = (int) tape.row[i];
            drafted = 0;
            place = 0;
            fault = -1;
            readOrs(0);
            if (place < end) fail();
            return fault;
        }

        private int peek() {
            return place < end ? text[place] : NO_BYTE;
        }

        private void fail() {
            if (fault < 0) fault = place;
        }

        private void draftStep(int step) {
            if (drafted >= ROW_MOST) return;
            draft[drafted] = step;
            drafted++;
        }

        private void readOrs(int depth) {
            readAnds(depth);
            while (fault < 0 && place < end && peek() == '|') {
                place++;
                readAnds(depth);
                draftStep(DEED + '|');
            }
        }

        private void readAnds(int depth) {
            readTest(depth);
            while (fault < 0 && place < end && peek() == '&') {
                place++;
                readTest(depth);
                draftStep(DEED + '&');
            }
        }

        private void readTest(int depth) {
            int first = peek();
            if (first != '!' && first != '(') {
                readSum();
                int sign = peek();
                if (sign == '<' || sign == '=' || sign == '>') {
                    place++;
                    readSum();
                    draftStep(DEED + sign);
                } else {
                    fail();
                }
            } else if (depth >= DEEPEST) {
                fail();
            } else if (first == '!') {
                place++;
                readTest(depth + 1);
                draftStep(DEED + '!');
            } else {
                place++;
                readOrs(depth + 1);
                if (peek() == ')') place++;
                else fail();
            }
        }

        private void readSum() {
            readUnit();
            int deed = peek();
            while (fault < 0 && place < end && (deed == '+' || deed == '-' || deed == '*')) {
                place++;
                readUnit();
                draftStep(DEED + deed);
                deed = peek();
            }
        }

        private void readUnit() {
            int first = peek();
            if (within(first, '0', '9')) {
                int value = 0;
                for (int digits = 0; digits < 4 && within(peek(), '0', '9'); digits++) {
                    value = 10 * value + peek() - '0';
                    place++;
                }
                draftStep(value);
            } else if (within(first, 'a', 'z') && FACTS.indexOf((char) first) >= 0) {
                place++;
                draftStep(FACT + first);
            } else {
                fail();
            }
        }
    }

    // A row of one sort, or an image of the city.
    private static final class Tape {
        int sort = 0, length = 0;
        final long[] row = new long[ROW_MOST];
        City image = null;

        boolean holdsRow() {
            return within(sort, BYTES, BOOLEANS);
        }

        long narrowed(long v) {
            switch (sort) {
                case BYTES: return (byte) v;
                case SHORTS: return (short) v;
                case INTS: return (int) v;
                case LONGS: return v;
                default: return v != 0 ? 1 : 0;
            }
        }
    }
}
