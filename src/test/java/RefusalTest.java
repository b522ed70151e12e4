import java.util.function.Supplier;

// VIII: what is refused changes nothing, and of several refusals the one that a method's words name first is answered.
// Each refused call goes to a new city; all that can be asked of it is then as in one that never had the call.
public final class RefusalTest extends Due {
    private static final int NONE = LowFall.NONE, FULL = LowFall.FULL, UNABLE = LowFall.UNABLE, LATER = LowFall.LATER;
    private static final int NOTHING = LowFall.NOTHING, CAST = LowFall.CAST, PLACE = LowFall.PLACE;
    private static final int FAR = Integer.MAX_VALUE, FARTHER = Integer.MIN_VALUE;
    private static final String IAE = "IllegalArgumentException", ISE = "IllegalStateException";

    private interface Call {
        long to(LowFall x);
    }

    private static Supplier<LowFall> city;

    public static void main(String[] args) {
        city = BusyCity::made;
        ground();
        tides();
        drains();
        lines();
        houses();
        lawsAndChoices();
        tapes();
        fullOfTellings();
        fullOfLines();
        fullOfLaws();
        fullOfHouses();
        atTheEnd();
        end("refusals");
    }

    private static void refused(Call call, long answer) {
        refused(call, "" + answer);
    }

    private static void refused(Call call, String answer) {
        LowFall asked = city.get(), other = city.get();
        String got;
        try {
            got = "" + call.to(asked);
        } catch (RuntimeException e) {
            got = e.getClass().getSimpleName();
        }
        if (!got.equals(answer)) System.out.println("answered " + got + ", due is " + answer);
        due(got.equals(answer) ? 1 : 0, 1);
        boolean hosts = answer.startsWith("-1") && answer.length() == 3;
        due(asked.count(18) - other.count(18), hosts ? 1 : 0);
        String is = BusyCity.look(asked), was = BusyCity.look(other);
        if (!is.equals(was)) System.out.println("it is   " + is + "\nit was  " + was);
        due(is.equals(was) ? 1 : 0, 1);
    }

    // ---- what is refused, method by method

    private static void ground() {
        says("set: ... NONE");
        for (int cell : new int[] {-1, 100, FAR, FARTHER}) refused(x -> x.set(cell, 2, 1), NONE);
        for (int what : new int[] {-1, 6, FAR, FARTHER}) refused(x -> x.set(0, what, 1), NONE);
        int[] most = {300, 3, 9999, 99, 1, 1};
        for (int what = 0; what < 6; what++) {
            int of = what;
            refused(x -> x.set(0, of, most[of] + 1), NONE);
            refused(x -> x.set(0, of, -1), NONE);
        }
        says("of: IllegalArgumentException: no such CELL; IllegalStateException: no such what");
        for (int cell : new int[] {-1, 100, FAR, FARTHER}) {
            refused(x -> x.of(cell, 0), IAE);
            refused(x -> x.of(cell, 17), IAE);
            refused(x -> x.of(cell, -1), IAE);
        }
        for (int what : new int[] {-1, 17, FAR, FARTHER}) refused(x -> x.of(0, what), ISE);
    }

    private static void tides() {
        says("tide: NONE: no such TAPE; NOTHING; CAST; FULL: not 1 .. 60");
        for (int d : new int[] {-1, 6, FAR, FARTHER}) refused(x -> x.tide(d), NONE);
        refused(x -> x.tide(4), NOTHING);
        for (int d : new int[] {0, 2, 3}) refused(x -> x.tide(d), CAST);
        Supplier<LowFall> before = city;
        for (int n : new int[] {0, 61, 100}) {
            city = () -> {
                LowFall x = before.get();
                x.tape(1, 1, n);
                return x;
            };
            refused(x -> x.tide(1), FULL);
        }
        city = before;
        says("level: IllegalArgumentException: not there");
        for (int hour : new int[] {-1, 100001, FAR, FARTHER}) refused(x -> x.level(hour), IAE);
        says("comesBack: NONE: not 0 .. 99999");
        for (int hour : new int[] {-1, 100000, FAR, FARTHER}) refused(x -> x.comesBack(hour), NONE);
        says("window: NONE: not 0 .. 99999, SILL not -128 .. 127; UNABLE");
        for (int from : new int[] {-1, 100000, FAR, FARTHER}) {
            refused(x -> x.window(from, 0), NONE);
            refused(x -> x.window(from, -128), NONE); // and nothing is below that
        }
        for (int sill : new int[] {-129, 128, FAR, FARTHER}) refused(x -> x.window(0, sill), NONE);
        refused(x -> x.window(0, -2), UNABLE);
        refused(x -> x.window(99999, -128), UNABLE);
    }

    private static void drains() {
        says("old: NONE: also DOWN not BESIDE");
        for (int cell : new int[] {-1, 100, FAR, FARTHER}) refused(x -> x.old(cell, -1, 0, 0), NONE);
        for (int down : new int[] {0, -2, 11, 2, 100, FAR, FARTHER}) refused(x -> x.old(0, down, 0, 0), NONE);
        for (int invert : new int[] {-1, 301, FAR, FARTHER}) refused(x -> x.old(0, 1, invert, 0), NONE);
        for (int wide : new int[] {-1, 10, FAR, FARTHER}) refused(x -> x.old(0, 1, 0, wide), NONE);
        says("map: NONE (DOWN is -1 or any CELL BESIDE); FULL");
        for (int cell : new int[] {-1, 100, FAR, FARTHER}) refused(x -> x.map(cell, -1, 0), NONE);
        for (int down : new int[] {0, -2, 11, 2, 100, FAR, FARTHER}) refused(x -> x.map(0, down, 0), NONE);
        for (int invert : new int[] {-1, 301, FAR, FARTHER}) refused(x -> x.map(0, 1, invert), NONE);
        says("cut: NONE; FULL (if a telling is wanted)");
        for (int cell : new int[] {-1, 100, FAR, FARTHER}) refused(x -> x.cut(cell), NONE);
        refused(x -> x.cut(0), 0); // no refusal, but nothing is told
        says("mapOf: NONE");
        for (int cell : new int[] {-1, 100, FAR, FARTHER}) refused(x -> x.mapOf(cell, 0, 0), NONE);
        for (int what : new int[] {-1, 2, FAR, FARTHER}) refused(x -> x.mapOf(0, what, 0), NONE);
        for (int day : new int[] {-1, 5000, FAR, FARTHER}) {
            refused(x -> x.mapOf(0, 0, day), NONE);
            refused(x -> x.mapOf(99, 0, day), NONE); // and there is no telling
        }
        says("route: NONE: no such CELL, a is b, z not 0 .. 300, f not 1 .. 9; UNABLE");
        for (int cell : new int[] {-1, 100, FAR, FARTHER}) {
            refused(x -> x.route(cell, 5, 90, 1), NONE);
            refused(x -> x.route(5, cell, 90, 1), NONE);
            refused(x -> x.route(cell, cell, 0, 9), NONE);
        }
        refused(x -> x.route(5, 5, 90, 1), NONE);
        refused(x -> x.route(33, 33, 0, 9), NONE); // and a river, and no fall left
        for (int z : new int[] {-1, 301, FAR, FARTHER}) {
            refused(x -> x.route(5, 6, z, 1), NONE);
            refused(x -> x.route(33, 6, z, 1), NONE);
        }
        for (int f : new int[] {0, 10, -1, FAR, FARTHER}) {
            refused(x -> x.route(5, 6, 90, f), NONE);
            refused(x -> x.route(33, 6, 0, f), NONE);
        }
        refused(x -> x.route(33, 34, 90, 1), UNABLE);
        refused(x -> x.route(32, 34, 90, 1), UNABLE);
        refused(x -> x.route(5, 6, 0, 1), UNABLE);
    }

    private static void lines() {
        says("take: NONE: WIDTH, CEMENT");
        for (int width : new int[] {0, 10, -1, FAR, FARTHER}) refused(x -> x.take(width, 0), NONE);
        for (int cement : new int[] {-1, 2, FAR, FARTHER}) refused(x -> x.take(1, cement), NONE);
        says("lineOf: IllegalArgumentException: no such LINE, what; IllegalStateException: no such CELL of it");
        for (int line : new int[] {-1, 2, 8, FAR, FARTHER}) {
            refused(x -> x.lineOf(line, 0, 0), IAE);
            refused(x -> x.lineOf(line, 9, 0), IAE);
        }
        for (int what : new int[] {-1, 7, FAR, FARTHER}) {
            refused(x -> x.lineOf(0, 0, what), IAE);
            refused(x -> x.lineOf(0, 3, what), IAE);
        }
        for (int i : new int[] {-1, 3, 19, FAR, FARTHER}) refused(x -> x.lineOf(0, i, 0), ISE);
        refused(x -> x.lineOf(1, 2, 6), ISE);
        says("size, gangs, kiln, carries: ... NONE");
        for (int line : new int[] {-1, 2, 8, FAR, FARTHER}) {
            refused(x -> x.size(line), NONE);
            refused(x -> x.gangs(line, 1), NONE);
            refused(x -> x.carries(line), NONE);
        }
        for (int n : new int[] {-1, 5, FAR, FARTHER}) refused(x -> x.gangs(0, n), NONE);
        for (int make : new int[] {-1, 10000, FAR, FARTHER}) refused(x -> x.kiln(make), NONE);
        says("bad: NONE: no such LINE, CELL; LATER: it isn't LAID");
        for (int line : new int[] {-1, 2, 8, FAR, FARTHER}) refused(x -> x.bad(line, 0, true), NONE);
        for (int i : new int[] {-1, 3, 19, FAR, FARTHER}) refused(x -> x.bad(0, i, true), NONE);
        refused(x -> x.bad(0, 0, true), LATER);
        refused(x -> x.bad(0, 0, false), LATER);
        refused(x -> x.bad(0, 2, false), 0);
        says("bears: NONE; LATER: it isn't LAID; UNABLE: none");
        for (int line : new int[] {-1, 2, 8, FAR, FARTHER}) refused(x -> x.bears(line, 0), NONE);
        for (int i : new int[] {-1, 3, 19, FAR, FARTHER}) refused(x -> x.bears(0, i), NONE);
        refused(x -> x.bears(0, 1), LATER);
        says("cross: NONE (DAY 0 .. 4999)");
        for (int line : new int[] {-1, 2, 8, FAR, FARTHER}) refused(x -> x.cross(line, 0, 0), NONE);
        for (int i : new int[] {-1, 3, 19, FAR, FARTHER}) refused(x -> x.cross(0, i, 0), NONE);
        for (int day : new int[] {-1, 5000, FAR, FARTHER}) refused(x -> x.cross(0, 0, day), NONE);
    }

    private static void houses() {
        says("rain, bridge, hours: ... NONE");
        for (int r : new int[] {-1, 201, FAR, FARTHER}) refused(x -> x.rain(r), NONE);
        for (int cell : new int[] {-1, 100, FAR, FARTHER}) refused(x -> x.bridge(cell), NONE);
        for (int n : new int[] {0, -1, 241, FAR, FARTHER}) refused(x -> x.hours(n), NONE);
        says("lift: NONE: no such CELL, TO; POWER 1 .. 9999, COAL 0 .. 9999; TO is the CELL; UNABLE: there is an OUT");
        for (int cell : new int[] {-1, 100, FAR, FARTHER}) {
            refused(x -> x.lift(cell, 5, 1, 1), NONE);
            refused(x -> x.lift(20, cell, 1, 1), NONE);
            refused(x -> x.lift(34, cell, 1, 1), NONE);
        }
        for (int power : new int[] {0, -1, 10000, FAR, FARTHER}) {
            refused(x -> x.lift(20, 21, power, 1), NONE);
            refused(x -> x.lift(34, 21, power, 1), NONE);
        }
        for (int coal : new int[] {-1, 10000, FAR, FARTHER}) {
            refused(x -> x.lift(20, 21, 1, coal), NONE);
            refused(x -> x.lift(34, 21, 1, coal), NONE);
        }
        refused(x -> x.lift(20, 20, 1, 1), NONE);
        refused(x -> x.lift(34, 34, 1, 1), NONE);
        refused(x -> x.lift(34, 21, 1, 1), UNABLE);
        says("coal: NONE: also no LIFT; FULL: above 99999");
        for (int cell : new int[] {-1, 100, 21, 34, FAR, FARTHER}) refused(x -> x.coal(cell, 1), NONE);
        for (int n : new int[] {0, -1, 10000, FAR, FARTHER}) refused(x -> x.coal(20, n), NONE);
        Supplier<LowFall> before = city;
        city = () -> {
            LowFall x = before.get();
            for (int i = 0; i < 9; i++) x.coal(20, 9999);
            x.coal(20, 9990); // 9 and 99981
            return x;
        };
        refused(x -> x.coal(20, 10), FULL);
        refused(x -> x.coal(20, 9999), FULL);
        refused(x -> x.coal(20, 10000), NONE);
        city = before;
        says("stop: NONE");
        for (int cell : new int[] {-1, 100, 21, 34, FAR, FARTHER}) refused(x -> x.stop(cell, false), NONE);
        refused(x -> x.stop(20, true), 0);
        says("lasts: NONE: no such CELL, n below 0; ZERO: n is 0 (and it has less)");
        for (int cell : new int[] {-1, 100, FAR, FARTHER}) {
            refused(x -> x.lasts(cell, 1), NONE);
            refused(x -> x.lasts(cell, 0), NONE);
        }
        refused(x -> x.lasts(33, -1), NONE);
        refused(x -> x.lasts(33, FARTHER), NONE);
        refused(x -> x.lasts(0, -1), NONE); // and it has that
        refused(x -> x.lasts(33, 0), LowFall.ZERO);
        says("out: NONE: no such CELL; SIZE 1 .. 9999, GATE 1 .. 9999, SILL -128 .. 127; UNABLE: there is a LIFT");
        for (int cell : new int[] {-1, 100, FAR, FARTHER}) refused(x -> x.out(cell, 1, 1, 0), NONE);
        for (int n : new int[] {0, -1, 10000, FAR, FARTHER}) {
            refused(x -> x.out(34, n, 1, 0), NONE);
            refused(x -> x.out(34, 1, n, 0), NONE);
            refused(x -> x.out(20, n, 1, 0), NONE);
        }
        for (int sill : new int[] {-129, 128, FAR, FARTHER}) {
            refused(x -> x.out(34, 1, 1, sill), NONE);
            refused(x -> x.out(20, 1, 1, sill), NONE);
        }
        refused(x -> x.out(20, 1, 1, 0), UNABLE);
        says("house: IllegalArgumentException: no such CELL, what; IllegalStateException: none there");
        for (int cell : new int[] {-1, 100, FAR, FARTHER}) refused(x -> x.house(cell, 0), IAE);
        for (int what : new int[] {-1, 4, FAR, FARTHER}) {
            refused(x -> x.house(34, what), IAE);
            refused(x -> x.house(5, what), IAE);
        }
        for (int what = 0; what < 4; what++) {
            int of = what;
            refused(x -> x.house(5, of), ISE);
            refused(x -> x.house(of < 2 ? 20 : 34, of), ISE);
        }
    }

    private static void lawsAndChoices() {
        says("law: NONE: kind, DAY, TAPE; LATER: a DAY ahead of today; NOTHING; CAST; a fault");
        for (int kind : new int[] {-1, 3, FAR, FARTHER}) {
            refused(x -> x.law(kind, 3, 5), NONE);
            refused(x -> x.law(kind, 0, 4), NONE);
        }
        for (int day : new int[] {-1, 5000, FAR, FARTHER}) refused(x -> x.law(0, day, 5), NONE);
        for (int d : new int[] {-1, 6, FAR, FARTHER}) {
            refused(x -> x.law(0, 3, d), NONE);
            refused(x -> x.law(0, 2, d), NONE);
        }
        for (int day = 0; day < 3; day++) {
            int ahead = day;
            for (int d = 0; d < 6; d++) {
                int on = d;
                refused(x -> x.law(0, ahead, on), LATER); // of nothing, of another sort, with a fault: all the same
            }
        }
        refused(x -> x.law(0, 3, 4), NOTHING);
        for (int d : new int[] {0, 2, 3}) refused(x -> x.law(0, 3, d), CAST);
        refused(x -> x.law(0, 3, 1), -100);
        says("inForce, holds: NONE");
        for (int kind : new int[] {-1, 3, FAR, FARTHER}) {
            refused(x -> x.inForce(kind, 0), NONE);
            refused(x -> x.holds(kind, 0), NONE);
        }
        for (int day : new int[] {-1, 5000, FAR, FARTHER}) refused(x -> x.inForce(1, day), NONE);
        for (int cell : new int[] {-1, 100, FAR, FARTHER}) refused(x -> x.holds(1, cell), NONE);
        says("best: ... NONE");
        for (int sum : new int[] {-1, 10000000, FAR, FARTHER}) refused(x -> x.best(sum, 0), NONE);
        for (int what : new int[] {-1, 3, FAR, FARTHER}) refused(x -> x.best(0, what), NONE);
        says("judge: -100 less the first i ...; NONE: no such TAPE, sum; NOTHING; CAST; PLACE");
        for (int d : new int[] {-1, 6, FAR, FARTHER}) refused(x -> x.judge(d, 9999999), NONE);
        for (int sum : new int[] {-1, 10000000, FAR, FARTHER}) {
            for (int d = 0; d < 6; d++) {
                int on = d;
                refused(x -> x.judge(on, sum), NONE);
            }
        }
        refused(x -> x.judge(4, 1), NOTHING);
        for (int d : new int[] {0, 1, 2, 5}) refused(x -> x.judge(d, 1), CAST);
        refused(x -> x.judge(3, 0), -100);
        Supplier<LowFall> before = city;
        for (int n = 0; n < 2; n++) {
            int elements = n;
            city = () -> {
                LowFall x = before.get();
                x.tape(3, 5, elements);
                return x;
            };
            refused(x -> x.judge(3, 9999999), PLACE);
        }
        city = () -> {
            LowFall x = before.get();
            row(x, 3, 5, 1);
            return x;
        };
        refused(x -> x.judge(3, 9999999), PLACE);
        refused(x -> x.judge(3, 0), -100); // what it has is looked at first
        says("share: NONE; ZERO: nobody lives in the city");
        city = before;
        for (int sum : new int[] {-1, 10000000, FAR, FARTHER}) refused(x -> x.share(sum, 0), NONE);
        for (int y : new int[] {-1, 10, FAR, FARTHER}) refused(x -> x.share(1, y), NONE);
        city = () -> {
            LowFall x = before.get();
            x.set(0, 2, 0);
            x.set(2, 2, 0);
            x.set(34, 2, 0);
            x.set(43, 2, 0);
            x.set(10, 2, 0);
            return x;
        };
        refused(x -> x.share(0, 0), LowFall.ZERO);
        refused(x -> x.share(-1, 0), NONE);
        refused(x -> x.share(0, 10), NONE);
        city = before;
        says("count: NONE for another what");
        for (int what : new int[] {-1, 19, FAR, FARTHER}) refused(x -> x.count(what), NONE);
        says("way: -9: none");
        for (int i : new int[] {-1, 3, 19, FAR, FARTHER}) refused(x -> x.way(i), -9);
    }

    private static void tapes() {
        says("tape: NONE: no such TAPE, sort, n above 100; SIZE");
        for (int d : new int[] {-1, 6, FAR, FARTHER}) {
            refused(x -> x.tape(d, 1, 1), NONE);
            refused(x -> x.tape(d, 1, -1), NONE);
            refused(x -> x.keep(d), NONE);
            refused(x -> x.back(d), NONE);
            refused(x -> x.toss(d), NONE);
            refused(x -> x.clear(d), NONE);
            refused(x -> x.put(d, 0, 1), NONE);
            refused(x -> x.put(d, -1, 1), NONE);
            refused(x -> x.at(d, 0), IAE);
            refused(x -> x.at(d, -1), IAE);
            refused(x -> x.copy(d, 0, 1, 0, 1), NONE);
            refused(x -> x.copy(1, 0, d, 0, 1), NONE);
            refused(x -> x.copy(4, -1, d, -1, -1), NONE);
        }
        for (int sort : new int[] {0, 6, -1, FAR, FARTHER}) {
            refused(x -> x.tape(1, sort, 1), NONE);
            refused(x -> x.tape(1, sort, -1), NONE);
        }
        for (int n : new int[] {101, FAR}) refused(x -> x.tape(1, 1, n), NONE);
        for (int d = 0; d < 6; d++) {
            int on = d;
            refused(x -> x.tape(on, 1, -1), LowFall.SIZE);
            refused(x -> x.tape(on, 5, FARTHER), LowFall.SIZE);
        }
        says("back, toss: NOTHING; CAST");
        refused(x -> x.back(4), NOTHING);
        refused(x -> x.toss(4), NOTHING);
        for (int d : new int[] {1, 2, 3, 5}) {
            refused(x -> x.back(d), CAST);
            refused(x -> x.toss(d), CAST);
        }
        says("toss: THROWN: one without such has none");
        Supplier<LowFall> before = city;
        city = () -> {
            LowFall x = new LowFall();
            x.rain(60);
            x.hours(2); // rain in cellars is no foul
            x.keep(0);
            return x;
        };
        refused(x -> x.toss(0), LowFall.THROWN);
        city = before;
        says("put: NOTHING; CAST; PLACE");
        for (int i : new int[] {-1, 0, 100, FAR, FARTHER}) {
            refused(x -> x.put(4, i, 1), NOTHING);
            refused(x -> x.put(0, i, 1), CAST);
        }
        for (int i : new int[] {-1, 2, 100, FAR, FARTHER}) refused(x -> x.put(1, i, 1), PLACE);
        says("at: IllegalStateException: it holds no row, or that has no such place");
        for (int i : new int[] {-1, 0, 100, FAR, FARTHER}) {
            refused(x -> x.at(4, i), ISE);
            refused(x -> x.at(0, i), ISE);
        }
        for (int i : new int[] {-1, 2, 100, FAR, FARTHER}) refused(x -> x.at(1, i), ISE);
        says("copy: NOTHING: of either; CAST: one is no row, or they are of two sorts; PLACE");
        for (int d : new int[] {0, 1, 2, 3, 4, 5}) {
            refused(x -> x.copy(4, -1, d, 0, 1), NOTHING);
            refused(x -> x.copy(d, 0, 4, 0, -1), NOTHING);
        }
        int[][] unlike = {{0, 0}, {0, 1}, {1, 0}, {1, 2}, {2, 1}, {3, 5}, {5, 3}};
        for (int[] two : unlike) {
            refused(x -> x.copy(two[0], 0, two[1], 0, 0), CAST);
            refused(x -> x.copy(two[0], -1, two[1], -1, -1), CAST);
        }
        int[][] places = {{-1, 0, 1}, {0, -1, 1}, {0, 0, -1}, {0, 0, 3}, {1, 0, 2}, {0, 2, 2}, {2, 0, 1}, {0, 3, 1}, {3, 0, 0}, {0, 4, 0},
            {FAR, 0, 1}, {0, FAR, 1}, {0, 0, FAR}, {1, 1, FAR}, {FARTHER, 0, 1}, {0, FARTHER, 1}, {0, 0, FARTHER}, {FAR, FAR, FAR}};
        for (int[] p : places) refused(x -> x.copy(1, p[0], 5, p[1], p[2]), PLACE); // two bytes, and three
        refused(x -> x.copy(1, 2, 5, 3, 0), 0); // none, at both ends
    }

    // ---- what is full

    private static void fullOfTellings() {
        says("map, cut: NONE; FULL");
        city = () -> {
            LowFall x = new LowFall();
            x.hours(1);
            x.old(9, 8, 3, 3);
            for (int i = 1; i <= 200; i++) x.map(i % 5, -1, i);
            return x;
        };
        refused(x -> x.map(0, -1, 0), FULL);
        refused(x -> x.map(7, 8, 300), FULL);
        refused(x -> x.map(0, 0, 0), NONE);
        refused(x -> x.map(100, -1, 0), NONE);
        refused(x -> x.map(0, -1, 301), NONE);
        refused(x -> x.cut(9), FULL);
        refused(x -> x.cut(0), FULL); // told otherwise
        refused(x -> x.cut(100), NONE);
        Supplier<LowFall> before = city;
        city = () -> {
            LowFall x = before.get();
            x.old(0, -1, 200, 0);
            return x;
        };
        refused(x -> x.cut(0), 0); // no telling is wanted
        city = before;
    }

    private static void fullOfLines() {
        says("take: NONE: WIDTH, CEMENT; UNABLE: no ROUTE; FULL: 8");
        city = () -> {
            LowFall x = new LowFall();
            x.route(0, 1, 90, 1);
            for (int k = 0; k < 8; k++) x.take(1 + k, 1);
            return x;
        };
        refused(x -> x.take(1, 1), FULL);
        refused(x -> x.take(0, 1), NONE);
        refused(x -> x.take(1, 2), NONE);
        Supplier<LowFall> before = city;
        city = () -> { // 8 lines come back from an image, but no route does
            LowFall x = before.get();
            x.keep(0);
            x.begin();
            x.back(0);
            return x;
        };
        refused(x -> x.take(1, 1), UNABLE);
        refused(x -> x.take(10, 1), NONE);
        city = LowFall::new;
        refused(x -> x.take(1, 1), UNABLE);
        refused(x -> x.take(10, 1), NONE);
        refused(x -> x.take(1, -1), NONE);
        for (int i : new int[] {0, -1}) refused(x -> x.way(i), -9);
    }

    private static void fullOfLaws() {
        says("law: ... a fault: -100 less the FIRST FAULT; FULL: 20, or more than 60 bytes");
        city = () -> {
            LowFall x = new LowFall();
            x.hours(30);
            text(x, 0, "h=1");
            for (int k = 0; k < 20; k++) x.law(k % 3, 1, 0);
            text(x, 1, "h=");
            x.tape(2, 2, 3);
            return x;
        };
        refused(x -> x.law(0, 1, 0), FULL);
        refused(x -> x.law(2, 4999, 0), FULL);
        refused(x -> x.law(0, 1, 1), -102);
        refused(x -> x.law(0, 1, 2), CAST);
        refused(x -> x.law(0, 1, 3), NOTHING);
        refused(x -> x.law(0, 0, 0), LATER);
        refused(x -> x.law(3, 1, 0), NONE);
        city = () -> {
            LowFall x = new LowFall();
            StringBuilder long61 = new StringBuilder("h");
            while (long61.length() < 59) long61.append("+h");
            text(x, 0, long61 + "=1");
            text(x, 1, long61 + "=");
            text(x, 2, long61 + "x1");
            x.put(1, 59, '*');
            return x;
        };
        refused(x -> x.law(0, 0, 0), FULL);
        refused(x -> x.law(0, 0, 1), -160);
        refused(x -> x.law(0, 0, 2), -159);
        says("of 60 bytes it is a LAW");
        LowFall x = city.get();
        text(x, 3, "h");
        x.tape(4, 1, 60);
        x.copy(0, 0, 4, 0, 60);
        x.put(4, 57, '=');
        x.put(4, 58, '1');
        x.put(4, 59, '0');
        due(x.law(0, 0, 4), 0);
    }

    private static void fullOfHouses() {
        says("lift, out: FULL: LIFTS and OUTS at 12 other CELLS");
        city = () -> {
            LowFall x = new LowFall();
            for (int c = 40; c < 46; c++) {
                x.lift(c, 0, 1, 1);
                x.out(10 + c, 1, 1, 0);
            }
            return x;
        };
        refused(x -> x.lift(0, 1, 1, 1), FULL);
        refused(x -> x.out(0, 1, 1, 1), FULL);
        refused(x -> x.lift(0, 0, 1, 1), NONE);
        refused(x -> x.lift(0, 1, 0, 1), NONE);
        refused(x -> x.out(0, 0, 1, 1), NONE);
        refused(x -> x.out(0, 1, 1, 128), NONE);
        refused(x -> x.lift(50, 1, 1, 1), UNABLE);
        refused(x -> x.out(40, 1, 1, 1), UNABLE);
        city = () -> {
            LowFall x = new LowFall();
            for (int c = 0; c < 12; c++) x.out(9 * c, 1, 1, 0); // 0 and 99 among them
            return x;
        };
        refused(x -> x.out(1, 1, 1, 1), FULL);
        refused(x -> x.lift(98, 1, 1, 1), FULL);
        says("in place of one of the 12 there is room");
        due(city.get().out(0, 1, 1, 1), 0);
        due(city.get().out(99, 1, 1, 1), 0);
        city = () -> {
            LowFall x = new LowFall();
            for (int c = 40; c < 46; c++) {
                x.lift(c, 0, 1, 1);
                x.out(10 + c, 1, 1, 0);
            }
            return x;
        };
        due(city.get().lift(40, 1, 9, 9), 0);
        due(city.get().out(55, 9, 9, 9), 0);
    }

    private static void atTheEnd() {
        says("hours: NONE; FULL: beyond 99999");
        LowFall x = new LowFall();
        x.set(0, 2, 100);
        for (int i = 0; i < 416; i++) x.hours(240);
        for (int n : new int[] {160, 240}) due(x.hours(n), FULL);
        for (int n : new int[] {0, 241}) due(x.hours(n), NONE);
        due(x.count(0), 99840);
        due(x.count(1), 99840);
        due(x.hours(159), 99999);
        due(x.hours(1), FULL);
        due(x.hours(241), NONE);
        due(x.hours(0), NONE);
        due(x.count(0), 99999);
        due(x.count(1), 99999);
    }
}
