// The sentences of "Promise 1" to "Promise 48", each at its edges; what they refuse is in RefusalTest too.
public final class PromiseTest extends Due {
    private static final int NONE = LowFall.NONE, UNABLE = LowFall.UNABLE, LATER = LowFall.LATER;

    public static void main(String[] args) {
        newAndBegun();
        setAndOf();
        tide();
        oldAndMap();
        routes();
        lines();
        setting();
        crossing();
        houses();
        lasting();
        outs();
        hoursAndBridge();
        laws();
        choices();
        shares();
        rows();
        images();
        copies();
        counts();
        end("promises 1 to 48");
    }

    private static void isNew(LowFall x) {
        int[] first = {100, 0, 0, 50, 0, 0, -1, 0, 0, 0, 0, 0, 0, 50, 0, 0, 0};
        for (int c : new int[] {0, 1, 20, 45, 99}) for (int what = 0; what <= 16; what++) due(x.of(c, what), first[what]);
        for (int what = 0; what <= 18; what++) due(x.count(what), 0);
        for (int kind = 0; kind < 3; kind++) due(x.inForce(kind, 4999), -9);
        due(x.level(0), 0);
        due(x.level(1), 0);
        due(x.way(0), -9);
        due(x.take(1, 0), UNABLE);
        due(x.size(0), NONE);
        due(x.mapOf(0, 0, 4999), -9);
        dueThrow(IllegalStateException.class, () -> x.house(0, 0));
        dueThrow(IllegalStateException.class, () -> x.house(1, 2));
        due(x.rain(0), 0);
        due(x.kiln(0), 0);
        due(x.bridge(0), 0);
        due(x.cutOff(), 0);
    }

    private static void newAndBegun() {
        says("1: As told in I to VII");
        LowFall x = new LowFall();
        isNew(x);
        for (int d = 0; d < 6; d++) due(x.clear(d), 0);
        says("2: All as at first (LAWS, THE TIDE, THE ROUTE are none; TAPES stay): 0");
        x = new LowFall();
        for (int what = 0; what < 6; what++) x.set(0, what, 1);
        x.set(45, 2, 6000);
        x.set(45, 5, 1);
        x.set(45, 3, 0);
        x.old(1, 11, 9, 9);
        x.map(0, 1, 1);
        levels(x, 7, 8);
        for (int kind = 0; kind < 3; kind++) law(x, kind, "1=1");
        x.route(46, 45, 70, 1);
        x.take(3, 1);
        x.gangs(0, 4);
        x.kiln(500);
        x.rain(9);
        x.bridge(44);
        x.lift(1, 2, 3, 4);
        x.out(20, 300, 4, 0);
        x.hours(60);
        row(x, 1, 3, 70, 71);
        x.back(2);
        x.keep(3);
        due(x.count(13) > 0 && x.count(14) > 0 && x.count(18) > 0 ? 1 : 0, 1);
        due(x.begin(), 0);
        isNew(x);
        due(x.at(1, 1), 71);
        due(x.toss(3), 1);
        due(x.out(20, 300, 4, 0), 0); // its tank holds nothing of the time before
        due(x.house(20, 0) + x.house(20, 1), 0);
        due(x.clear(3), 6);
        due(x.clear(5), 1);
        due(x.begin(), 0);
        // A city that is made after another one is as if it had been the first.
        x = new LowFall();
        BusyCity.makeOther(x);
        x.begin();
        BusyCity.make(x);
        x.clear(4);
        due(BusyCity.look(x).equals(BusyCity.look(BusyCity.made())) ? 1 : 0, 1);
        LowFall other = new LowFall();
        x = BusyCity.made();
        x.begin();
        BusyCity.makeOther(x);
        BusyCity.makeOther(other);
        for (int d = 0; d < 5; d++) x.clear(d);
        due(BusyCity.look(x).equals(BusyCity.look(other)) ? 1 : 0, 1);
        // What a line of the time before had, a new one hasn't.
        x = new LowFall();
        for (int turn = 0; turn < 2; turn++) {
            x.begin();
            x.set(1, 2, turn == 0 ? 100 : 0);
            x.route(0, 1, 101, 1);
            x.take(1, 0);
            due(x.gangs(0, 1), 0);
            x.kiln(100);
            x.hours(24);
            due(x.lineOf(0, 1, 5), turn == 0 ? 1 : 0);
            due(x.lineOf(0, 1, 6), 0);
            due(x.lineOf(0, 0, 3), 0);
            due(x.lineOf(0, 0, 4), -9);
            x.bad(0, 1, true);
            x.hours(24);
        }
    }

    private static void setAndOf() {
        says("3: Of a CELL 0 HEIGHT ... 5 PUMP becomes v: what it was");
        LowFall x = new LowFall();
        int[] first = {100, 0, 0, 50, 0, 0}, other = {7, 2, 5, 6, 1, 1};
        for (int what = 0; what < 6; what++) {
            due(x.set(99, what, other[what]), first[what]);
            for (int k = 0; k < 6; k++) due(x.of(99, k), k <= what ? other[k] : first[k]);
            due(x.of(98, what), first[what]);
        }
        says("4: 6 DOWN, 7 INVERT, 8 WIDE, 9 FOUL in its drain, 10 RAIN in it, 11 FOUL in cellars, 12 RAIN in these, 13 HOLD, ...");
        x = new LowFall();
        x.set(5, 2, 6000);
        x.set(5, 5, 1);
        x.set(5, 3, 0);
        x.rain(3);
        x.old(5, -1, 44, 1);
        x.map(5, 6, 7);
        x.route(4, 5, 80, 1); // 21 deep: a dig of 42
        x.take(1, 0);
        x.gangs(0, 2);
        x.hours(1);
        int[] hour1 = {100, 0, 6000, 0, 0, 1, -1, 44, 1, 60, 3, 0, 0, 90, 0, 1, 0};
        for (int what = 0; what <= 16; what++) due(x.of(5, what), hour1[what]);
        x.hours(1); // 120 and 6: 30 and 6 come up
        int[] hour2 = {100, 0, 6000, 0, 0, 1, -1, 44, 1, 90, 0, 30, 6, 90, 0, 1, 0};
        for (int what = 0; what <= 16; what++) due(x.of(5, what), hour2[what]);
        x.hours(22);
        int[] day1 = {100, 0, 6000, 0, 0, 1, -1, 44, 1, 90, 0, 60 * 24 - 90, 72, 90, 1, 1, 120};
        for (int what = 0; what <= 16; what++) due(x.of(5, what), day1[what]);
    }

    private static void tide() {
        says("5: THE TIDE is the row of bytes on TAPE d: its length");
        LowFall x = new LowFall();
        row(x, 3, 1, 1, -2, 3);
        due(x.tide(3), 3);
        for (int h = 0; h < 7; h++) due(x.level(h), h % 3 == 0 ? 1 : h % 3 == 1 ? -2 : 3);
        row(x, 3, 1, 9, 9);
        due(x.tide(3), 2); // in place of the other
        due(x.level(2), 9);
        due(x.level(1), 9);
        x.clear(3);
        due(x.level(0), 9);
        says("6: LEVEL of an HOUR (0 .. 100000)");
        due(x.level(100000), 9);
        dueThrow(IllegalArgumentException.class, () -> x.level(100001));
        dueThrow(IllegalArgumentException.class, () -> x.level(-1));
        says("7: Whether FOUL let out in an HOUR COMES BACK (1, 0)");
        due(x.comesBack(0), 0);
        due(x.comesBack(99999), 0);
        due(x.comesBack(100000), NONE);
        due(x.comesBack(-1), NONE);
        says("8: The first HOUR from one on ... whose LEVEL is below a SILL and in which nothing COMES BACK");
        levels(x, 5, 4, 3, 3, 3, 3, 3, 3, 3, 3, 3, 3, 3, 3, 3, 3, 3, 9);
        due(x.window(0, 5), 1);
        due(x.window(4, 5), 4); // the 9 of hour 17 is the 13th
        due(x.window(5, 5), 19);
        levels(x, 5, 4, 3, 3, 3, 3, 3, 3, 3, 3, 3, 3, 3, 3, 3, 3, 3, 3);
        due(x.window(0, 5), 1);
        due(x.window(0, 6), 0);
        due(x.window(1, 6), 1);
        due(x.window(2, 6), 2);
        due(x.window(6, 6), 18); // from 6 on the 5 of hour 18 is within 12 hours
        due(x.window(5, 4), 5);
        due(x.window(6, 4), 20);
        due(x.window(0, 3), UNABLE);
        due(x.window(0, -128), UNABLE);
        due(x.window(0, 127), 0);
        due(x.window(99999, 6), 100008); // 99999 is 5555 times 18 and 9
        due(x.window(-1, 5), NONE);
        due(x.window(100000, 5), NONE);
        due(x.window(0, 128), NONE);
        due(x.window(0, -129), NONE);
        levels(x, 127, -128);
        due(x.window(0, 127), UNABLE); // what is let out at the ebb comes back with the flood
        levels(x, -128);
        due(x.window(0, -128), UNABLE);
        due(x.window(0, -127), 0);
    }

    private static void oldAndMap() {
        says("9: An OLD DRAIN as it is: 0");
        LowFall x = new LowFall();
        due(x.old(0, 10, 5, 6), 0);
        due(x.mapOf(0, 0, 4999), -9); // the map doesn't know
        says("10: A telling of THE MAP, KNOWN today: how many it has");
        x.hours(24);
        due(x.map(0, 1, 300), 1);
        due(x.map(0, -1, 0), 2);
        due(x.map(99, 89, 7), 3);
        due(x.of(0, 6), 10); // what is told changes no drain
        says("11: if THE MAP as of today isn't as it is (or has no telling), a telling as it is: 1; else 0");
        due(x.cut(0), 1);
        due(x.cut(0), 0);
        due(x.count(17), 4);
        due(x.mapOf(0, 0, 1), 10);
        due(x.mapOf(0, 1, 1), 5);
        x.old(0, 10, 6, 6);
        due(x.cut(0), 1); // another INVERT
        x.old(0, 10, 6, 1);
        due(x.cut(0), 0); // another WIDE is nothing
        x.old(0, -1, 6, 1);
        due(x.cut(0), 1); // another DOWN
        due(x.cut(50), 1); // no telling, were the drain none
        due(x.cut(50), 0);
        due(x.count(17), 7);
        x.map(0, 10, 6);
        due(x.cut(0), 1); // the latest is what counts
        says("12: Of THE MAP as of a DAY (0 .. 4999) of a CELL: what 0 DOWN, 1 INVERT; -9: no telling");
        due(x.mapOf(0, 0, 0), -9);
        due(x.mapOf(0, 0, 4999), -1);
        due(x.mapOf(0, 1, 4999), 6);
        due(x.mapOf(99, 0, 1), 89);
        LowFall once = new LowFall();
        once.map(3, 4, 77);
        due(once.mapOf(3, 0, 0), 4);
        due(once.mapOf(3, 1, 0), 77);
        due(once.mapOf(4, 1, 0), -9);
        due(x.mapOf(0, 2, 1), NONE);
        due(x.mapOf(0, -1, 1), NONE);
        due(x.mapOf(0, 0, 5000), NONE);
        due(x.mapOf(0, 0, -1), NONE);
    }

    private static void routes() {
        says("13: The BEST ROUTE is found and kept as THE ROUTE: its DIG");
        LowFall x = new LowFall();
        due(x.route(0, 1, 0, 1), UNABLE);
        due(x.way(0), -9);
        due(x.route(0, 1, 300, 9), 9 * 200 + 9 * 191);
        due(x.route(0, 1, 1, 1), 2 * 99 + 2 * 100);
        due(x.route(0, 1, 300, 10), NONE);
        due(x.route(0, 1, 300, 0), NONE);
        due(x.route(0, 1, 301, 9), NONE);
        due(x.route(0, 1, -1, 1), NONE);
        due(x.route(0, 0, 300, 9), NONE);
        due(x.route(99, 98, 300, 9) > 0 ? x.way(0) : 0, 99);
        says("14: The i-th CELL of THE ROUTE; -9: none");
        due(x.way(1), 98);
        due(x.way(2), -9);
        due(x.way(-1), -9);
        due(x.route(9, 90, 100, 1) > 0 ? x.way(18) : 0, 90);
        due(x.way(19), -9);
        says("15: THE ROUTE becomes a LINE: its number (THE ROUTE stays: taken again, it is one more LINE)");
        due(x.take(1, 0), 0);
        due(x.way(18), 90);
        due(x.take(9, 1), 1);
        due(x.size(0), 19);
        due(x.size(1), 19);
        x.route(5, 6, 90, 1);
        due(x.size(0), 19);
        due(x.take(1, 0), 2);
        says("16: Of the i-th CELL of a LINE: 0 the CELL, 1 INVERT, 2 DIG, 3 DUG, 4 the DAY when it was LAID (-9: not), ...");
        int[] due = {6, 89, 22, 0, -9, 0, 0};
        for (int what = 0; what < 7; what++) due(x.lineOf(2, 1, what), due[what]);
        dueThrow(IllegalStateException.class, () -> x.lineOf(2, 2, 0));
        dueThrow(IllegalStateException.class, () -> x.lineOf(0, 19, 0));
        dueThrow(IllegalArgumentException.class, () -> x.lineOf(3, 0, 0));
        dueThrow(IllegalArgumentException.class, () -> x.lineOf(0, 0, 7));
        x.set(6, 2, 100);
        x.gangs(2, 1);
        x.kiln(100);
        days(x, 2);
        x.bad(2, 1, true);
        due[3] = 40;
        due[4] = 2;
        due[5] = 1;
        due[6] = 1;
        for (int what = 0; what < 7; what++) due(x.lineOf(2, 1, what), due[what]);
    }

    private static void lines() {
        says("17: How many CELLS a LINE has");
        LowFall x = new LowFall();
        due(x.size(0), NONE);
        x.route(0, 1, 90, 1);
        x.take(1, 0);
        x.route(0, 99, 90, 1);
        x.take(1, 0);
        due(x.size(0), 2);
        due(x.size(1), 19);
        due(x.size(2), NONE);
        due(x.size(-1), NONE);
        says("18: A LINE's GANGS become others: how many they were");
        for (int n = 0; n <= 4; n++) due(x.gangs(1, n), n == 0 ? 0 : n - 1);
        due(x.gangs(1, 4), 4);
        due(x.gangs(0, 0), 0);
        due(x.gangs(1, 5), NONE);
        due(x.gangs(1, -1), NONE);
        due(x.gangs(2, 0), NONE);
        says("19: MAKE becomes another: what it was");
        due(x.kiln(9999), 0);
        due(x.kiln(10000), NONE);
        due(x.kiln(-1), NONE);
        due(x.kiln(0), 9999);
        says("20: What was LAID at the i-th CELL of a LINE is told BAD, or not: 1; 0 if it was so");
        x = new LowFall();
        x.route(0, 1, 101, 1);
        x.take(1, 1);
        due(x.bad(0, 1, true), LATER);
        due(x.bad(0, 1, false), LATER);
        x.gangs(0, 1);
        x.kiln(100);
        days(x, 1);
        due(x.bad(0, 1, false), 0);
        due(x.bad(0, 1, true), 1);
        due(x.bad(0, 1, true), 0);
        due(x.bad(0, 1, false), 1);
        due(x.bad(0, 1, false), 0);
        due(x.bad(0, 0, true), LATER);
        due(x.bad(0, 2, true), NONE);
        due(x.bad(0, -1, true), NONE);
        due(x.bad(1, 0, true), NONE);
    }

    private static void setting() {
        says("21: The first DAY (to 9999) on which what was LAID at the i-th CELL of a LINE BEARS");
        LowFall x = new LowFall();
        x.route(0, 1, 101, 1);
        x.take(1, 0);
        due(x.bears(0, 1), LATER);
        for (int i = 0; i < 415; i++) x.hours(240); // day 4150
        x.gangs(0, 1);
        x.kiln(100);
        x.hours(24);
        due(x.lineOf(0, 1, 4), 4151);
        due(x.bears(0, 1), 4151);
        x.set(1, 0, 200); // 100 deep
        due(x.bears(0, 1), 4201);
        x.set(1, 0, 201);
        due(x.bears(0, 1), UNABLE);
        due(x.bears(0, 0), LATER);
        due(x.bears(0, 2), NONE);
        says("22: Whether a LINE CARRIES now (1, 0)");
        x = new LowFall();
        x.route(0, 1, 100, 1);
        x.take(1, 0);
        x.gangs(0, 4);
        x.kiln(9999);
        due(x.carries(0), 0);
        days(x, 2);
        due(x.carries(0), 0); // its end alone is laid
        days(x, 1);
        due(x.lineOf(0, 0, 4), 3); // a dig of 0
        due(x.carries(0), 1); // 1 deep, a day old
        x.set(0, 0, 101);
        due(x.carries(0), 0);
        x.hours(23);
        due(x.carries(0), 0);
        x.hours(1);
        due(x.carries(0), 1);
        due(x.carries(1), NONE);
        due(x.carries(-1), NONE);
    }

    private static void crossing() {
        says("23: 0 there is none (no telling, or DOWN -1), 1 over (3 or more above its INVERT), 2 under, 3 into it");
        LowFall x = new LowFall();
        x.route(0, 1, 150, 1);
        x.take(1, 0);
        x.old(0, 10, 150, 3);
        due(x.cross(0, 0, 0), 0); // there is a drain, but no telling
        for (int invert = 140; invert <= 160; invert++) {
            x.map(0, 10, invert);
            due(x.cross(0, 0, 0), invert <= 147 ? 1 : invert >= 153 ? 2 : 3);
        }
        x.map(0, -1, 150);
        due(x.cross(0, 0, 0), 0);
        x.map(1, 0, 146); // 149 there
        due(x.cross(0, 1, 0), 1);
        x.map(1, 0, 152);
        due(x.cross(0, 1, 0), 2);
        says("23: by THE MAP as of a DAY (0 .. 4999)");
        x.hours(24);
        x.map(1, 0, 149);
        due(x.cross(0, 1, 0), 2);
        due(x.cross(0, 1, 1), 3);
        due(x.cross(0, 1, 4999), 3);
        due(x.cross(0, 1, 5000), NONE);
        due(x.cross(0, 1, -1), NONE);
        due(x.cross(0, 2, 0), NONE);
        due(x.cross(1, 0, 0), NONE);
    }

    private static void houses() {
        says("24: R becomes another: what it was");
        LowFall x = new LowFall();
        due(x.rain(200), 0);
        due(x.rain(201), NONE);
        due(x.rain(0), 200);
        due(x.rain(-1), NONE);
        due(x.rain(1), 0);
        says("25: A LIFT is told at a CELL (in place of one; not STOPPED): 0");
        x = new LowFall();
        x.set(0, 2, 1000);
        due(x.lift(0, 1, 1, 9999), 0);
        x.stop(0, true);
        due(x.lift(0, 50, 9999, 0), 0);
        due(x.house(0, 3), 0);
        due(x.house(0, 2), 0);
        x.hours(1);
        due(x.of(50, 9), 0); // without coal
        x.lift(0, 50, 4, 1);
        x.hours(1);
        due(x.of(50, 9), 4);
        due(x.lift(0, 0, 4, 1), NONE);
        due(x.lift(0, 1, 10000, 1), NONE);
        due(x.lift(0, 1, 1, 10000), NONE);
        says("26: COAL of the LIFT at a CELL becomes n more (n 1 .. 9999): how much it has ... FULL: above 99999");
        x.lift(0, 50, 4, 9999);
        for (int i = 1; i <= 9; i++) due(x.coal(0, 9999), 9999 * (i + 1));
        due(x.coal(0, 10), LowFall.FULL);
        due(x.coal(0, 9), 99999);
        due(x.coal(0, 1), LowFall.FULL);
        due(x.house(0, 2), 99999);
        due(x.coal(0, 0), NONE);
        due(x.coal(0, 10000), NONE);
        due(x.coal(1, 1), NONE);
        says("27: A LIFT is STOPPED, or not: 1; 0 if it was so");
        due(x.stop(0, false), 0);
        due(x.stop(0, true), 1);
        due(x.stop(0, true), 0);
        due(x.house(0, 3), 1);
        due(x.stop(0, false), 1);
        due(x.house(0, 3), 0);
        due(x.stop(1, true), NONE);
    }

    private static void lasting() {
        says("28: The least number of HOURS in which, at n tons each, a CELL's drain comes to HOLD (0 if it has that)");
        LowFall x = new LowFall();
        for (int n = 1; n <= 60; n++) due(x.lasts(0, n), (50 + n - 1) / n);
        due(x.lasts(0, Integer.MAX_VALUE), 1);
        x.old(0, -1, 0, 9);
        due(x.lasts(0, 1), 410);
        x.old(0, -1, 0, 0);
        x.set(0, 2, 4900);
        x.hours(1);
        due(x.lasts(0, 1), 1);
        due(x.lasts(0, 2), 1);
        x.set(0, 2, 100);
        x.hours(1);
        due(x.lasts(0, 1), 0);
        due(x.lasts(0, 0), 0); // no ZERO where it has that
        x.hours(1);
        due(x.lasts(0, 0), 0);
        x.old(0, -1, 0, 1);
        due(x.lasts(0, 39), 2);
        due(x.lasts(0, 40), 1);
        due(x.count(18), 0);
        due(x.lasts(0, 0), LowFall.ZERO);
        due(x.count(18), 1);
        due(x.lasts(0, -1), NONE);
        due(x.count(18), 1);
    }

    private static void outs() {
        says("29: An OUT is told at a CELL (in place of one; what its TANK has above SIZE goes back to the drain, RAIN first): 0");
        for (int size = 1; size <= 12; size++) {
            LowFall x = new LowFall();
            x.set(0, 2, 600);
            x.rain(4);
            due(x.out(0, 9999, 9999, -128), 0);
            x.hours(1);
            due(x.house(0, 0) * 100 + x.house(0, 1), 604);
            due(x.out(0, size, 1, 0), 0);
            int over = Math.max(0, 10 - size), rain = Math.min(4, over);
            due(x.house(0, 1), 4 - rain);
            due(x.house(0, 0), 6 - (over - rain));
            due(x.of(0, 10), rain);
            due(x.of(0, 9), over - rain);
        }
        LowFall x = new LowFall();
        due(x.out(0, 0, 1, 0), NONE);
        due(x.out(0, 1, 0, 0), NONE);
        due(x.out(0, 10000, 1, 0), NONE);
        due(x.out(0, 1, 10000, 0), NONE);
        due(x.out(0, 1, 1, -129), NONE);
        due(x.out(0, 1, 1, 128), NONE);
        due(x.out(0, 1, 1, 127), 0);
        says("30: Of the OUT (what 0 FOUL, 1 RAIN in its TANK) or LIFT (2 COAL, 3 1 if STOPPED) at a CELL");
        x.lift(1, 2, 1, 0);
        due(x.house(0, 0), 0);
        due(x.house(0, 1), 0);
        due(x.house(1, 2), 0);
        due(x.house(1, 3), 0);
        for (int what = 0; what < 4; what++) {
            int of = what;
            dueThrow(IllegalStateException.class, () -> x.house(of < 2 ? 1 : 0, of));
            dueThrow(IllegalStateException.class, () -> x.house(2, of));
            dueThrow(IllegalArgumentException.class, () -> x.house(100, of));
        }
        dueThrow(IllegalArgumentException.class, () -> x.house(0, 4));
        dueThrow(IllegalArgumentException.class, () -> x.house(0, -1));
    }

    private static void hoursAndBridge() {
        says("31: n HOURS (1 .. 240) pass: HOUR");
        LowFall x = new LowFall();
        due(x.hours(0), NONE);
        due(x.hours(241), NONE);
        due(x.hours(-1), NONE);
        due(x.hours(1), 1);
        due(x.hours(240), 241);
        // 240 hours at once are as 240 times one.
        LowFall slow = new LowFall(), quick = new LowFall();
        for (LowFall y : new LowFall[] {slow, quick}) {
            y.set(0, 2, 7000);
            y.set(1, 2, 900);
            y.set(11, 5, 1);
            y.old(0, 1, 90, 1);
            y.rain(1);
            y.route(0, 1, 100, 1);
            y.take(1, 0);
            y.gangs(0, 1);
            y.kiln(50);
            levels(y, 0, 1, 2, 1, 0, -1, -2, -1);
            y.out(1, 300, 30, 1);
        }
        for (int i = 0; i < 240; i++) slow.hours(1);
        due(quick.hours(240), 240);
        for (int what = 0; what <= 18; what++) due(quick.count(what), slow.count(what));
        for (int c = 0; c < 2; c++) for (int what = 0; what <= 16; what++) due(quick.of(c, what), slow.of(c, what));
        says("32: BRIDGE becomes a CELL: which it was");
        due(x.bridge(99), 0);
        due(x.bridge(0), 99);
        due(x.bridge(100), NONE);
        due(x.bridge(-1), NONE);
        due(x.bridge(50), 0);
        says("33: How many CELLS are CUT OFF");
        for (int c = 0; c < 100; c++) x.set(c, 2, 1);
        due(x.cutOff(), 0);
        for (int c = 0; c < 100; c += 10) x.set(c + 5, 4, 1);
        due(x.cutOff(), 40);
        x.bridge(6);
        due(x.cutOff(), 50);
        x.bridge(5);
        due(x.cutOff(), 90);
    }

    private static void laws() {
        says("34: A LAW from a DAY on (0 .. 4999) is told by the row of bytes on TAPE d: its number");
        LowFall x = new LowFall();
        text(x, 0, "s=1");
        due(x.law(0, 0, 0), 0);
        due(x.law(0, 4999, 0), 1);
        due(x.law(2, 1, 0), 2);
        due(x.law(0, 5000, 0), NONE);
        due(x.law(0, -1, 0), NONE);
        x.clear(0);
        x.set(5, 1, 1);
        due(x.holds(0, 5), 1); // what was told stays told
        due(x.holds(0, 6), 0);
        says("34: LATER: a DAY ahead of today");
        text(x, 0, "s=1");
        x.hours(47);
        due(x.law(1, 0, 0), LATER);
        due(x.law(1, 1, 0), 3);
        x.hours(1);
        due(x.law(1, 1, 0), LATER);
        due(x.law(1, 2, 0), 4);
        says("35: The LAW in force for a kind on a DAY (0 .. 4999); -9: none");
        due(x.inForce(1, 0), -9);
        due(x.inForce(1, 1), 3);
        due(x.inForce(1, 2), 4);
        due(x.inForce(0, 4998), 0);
        due(x.inForce(0, 4999), 1);
        due(x.inForce(2, 0), -9);
        due(x.inForce(0, 5000), NONE);
        due(x.inForce(0, -1), NONE);
        due(x.inForce(3, 0), NONE);
        due(x.inForce(-1, 0), NONE);
        says("36: Whether DIG, OWE, OPEN hold at a CELL now (1, 0)");
        for (int kind = 0; kind < 3; kind++) {
            due(x.holds(kind, 5), 1);
            due(x.holds(kind, 6), 0);
            due(x.holds(kind, 99), 0);
            due(x.holds(kind, 100), NONE);
            due(x.holds(kind, -1), NONE);
        }
        due(x.holds(3, 5), NONE);
        due(x.holds(-1, 5), NONE);
    }

    private static void choices() {
        says("37: The BEST CHOICE for a sum (0 .. 9999999): what 0 its bits, 1 its FOULED PEOPLE, 2 its COST");
        LowFall x = new LowFall();
        for (int what = 0; what < 3; what++) {
            due(x.best(0, what), 0);
            due(x.best(9999999, what), 0);
            due(x.best(10000000, what), NONE);
            due(x.best(-1, what), NONE);
        }
        due(x.best(0, 3), NONE);
        due(x.best(0, -1), NONE);
        x.set(0, 2, 9999);
        x.set(10, 4, 1);
        x.old(0, 10, 0, 0);
        x.route(0, 1, 100, 1);
        for (int k = 0; k < 8; k++) x.take(9 - k, 0); // the last is 2 wide: 2 and 40
        due(x.best(41, 0), 0);
        due(x.best(41, 1), 9999);
        due(x.best(41, 2), 0);
        due(x.best(42, 0), 128);
        due(x.best(42, 1), 0);
        due(x.best(42, 2), 42);
        says("38: its FOULED PEOPLE; -100 less the first i by which the COST of those up to it is above the sum");
        row(x, 0, 5, 0, 0, 0, 0, 0, 0, 1, 1); // 62 and 42
        due(x.judge(0, 61), -106);
        due(x.judge(0, 62), -107);
        due(x.judge(0, 103), -107);
        due(x.judge(0, 104), 0);
        due(x.judge(0, 9999999), 0);
        due(x.judge(0, 10000000), NONE);
        due(x.judge(0, -1), NONE);
        x.tape(0, 5, 8);
        due(x.judge(0, 0), 9999);
        says("38: PLACE: it has fewer than there are LINES (and all that it has are well)");
        x.tape(0, 5, 7);
        due(x.judge(0, 0), LowFall.PLACE);
        x.put(0, 6, 1);
        due(x.judge(0, 62), LowFall.PLACE);
        due(x.judge(0, 61), -106);
        x.tape(0, 5, 0);
        due(x.judge(0, 0), LowFall.PLACE);
        x.tape(0, 5, 9);
        due(x.judge(0, 0), 9999);
    }

    private static void shares() {
        says("39: VESTRY y's share of a sum (0 .. 9999999) ... ZERO: nobody lives in the city");
        LowFall x = new LowFall();
        due(x.share(0, 0), LowFall.ZERO);
        due(x.share(9999999, 9), LowFall.ZERO);
        due(x.share(10000000, 0), NONE);
        due(x.share(-1, 0), NONE);
        due(x.share(0, 10), NONE);
        due(x.share(0, -1), NONE);
        due(x.count(18), 2);
        x.set(99, 2, 1);
        due(x.share(9999999, 9), 9999999);
        due(x.share(9999999, 0), 0);
        x.set(99, 4, 1); // a river's people pay too
        due(x.share(5, 9), 5);
        x.set(99, 2, 0);
        due(x.share(5, 9), LowFall.ZERO);
        for (int c = 0; c < 100; c++) x.set(c, 2, 9999);
        x.set(0, 2, 9998);
        int all = 0;
        for (int y = 0; y < 10; y++) all += x.share(9999999, y);
        due(all, 9999999);
        due(x.share(9999999, 0), 999990); // 9999999 times 99989 / 999899: 999989.99..., and the greatest remainder
    }

    private static void rows() {
        says("40: TAPE d gets a row of n elements, all 0 (false), of a sort (1 .. 5): n");
        LowFall x = new LowFall();
        for (int sort = 1; sort <= 5; sort++) {
            for (int n : new int[] {0, 1, 100}) {
                due(x.tape(0, sort, n), n);
                if (n > 0) due(x.at(0, n - 1), 0);
                int beyond = n;
                dueThrow(IllegalStateException.class, () -> x.at(0, beyond));
                for (int i = 0; i < n; i += 33) x.put(0, i, 77);
            }
            due(x.tape(0, sort, 101), NONE);
            due(x.tape(0, sort, -1), LowFall.SIZE);
            due(x.at(0, 99) == 0 ? 1 : 0, 0); // both leave the row as it is
        }
        due(x.tape(0, 0, 1), NONE);
        due(x.tape(0, 6, 1), NONE);
        due(x.tape(5, 1, 1), 1);
        due(x.tape(6, 1, 1), NONE);
        due(x.tape(-1, 1, 1), NONE);
        says("44: TAPE d holds nothing: what it held (0 nothing, 1 .. 6)");
        for (int sort = 1; sort <= 5; sort++) {
            x.tape(2, sort, 0);
            due(x.clear(2), sort);
            due(x.clear(2), 0);
        }
        x.keep(2);
        due(x.clear(2), 6);
        due(x.clear(2), 0);
        due(x.clear(6), NONE);
        due(x.clear(-1), NONE);
        dueThrow(IllegalStateException.class, () -> x.at(2, 0));
        says("45: Element i of the row on TAPE d becomes v, narrowed to its sort (a boolean: whether v isn't 0): 1");
        long[] wide = {0, 1, -1, 127, 128, -128, -129, 255, 256, 32767, 32768, -32769, 65536, 2147483647L, 2147483648L, -2147483649L,
            4294967296L, Long.MAX_VALUE, Long.MIN_VALUE};
        for (int sort = 1; sort <= 5; sort++) {
            x.tape(1, sort, 1);
            for (long v : wide) {
                due(x.put(1, 0, v), 1);
                due(x.at(1, 0), sort == 1 ? (byte) v : sort == 2 ? (short) v : sort == 3 ? (int) v : sort == 4 ? v : v != 0 ? 1 : 0);
            }
            due(x.put(1, 1, 0), LowFall.PLACE);
            due(x.put(1, -1, 0), LowFall.PLACE);
        }
        says("46: Element i of the row on TAPE d (a boolean: 1 or 0)");
        x.tape(1, 4, 2);
        x.put(1, 1, Long.MIN_VALUE);
        due(x.at(1, 1), Long.MIN_VALUE);
        due(x.at(1, 0), 0);
        dueThrow(IllegalArgumentException.class, () -> x.at(6, 0));
        dueThrow(IllegalArgumentException.class, () -> x.at(-1, 0));
        dueThrow(IllegalStateException.class, () -> x.at(1, 2));
        dueThrow(IllegalStateException.class, () -> x.at(1, -1));
        dueThrow(IllegalStateException.class, () -> x.at(3, 0));
    }

    private static void images() {
        says("41: TAPE d gets an IMAGE: HOUR");
        LowFall x = new LowFall();
        due(x.keep(6), NONE);
        due(x.keep(-1), NONE);
        x.tape(5, 1, 3);
        x.hours(7);
        due(x.keep(5), 7); // in place of the row
        dueThrow(IllegalStateException.class, () -> x.at(5, 0));
        says("42: All of I to V but LAWS, THE TIDE, THE ROUTE becomes as the IMAGE on TAPE d: HOUR");
        x.set(0, 2, 7777);
        x.hours(30);
        x.keep(4);
        levels(x, 4, 4, 4);
        x.route(0, 1, 90, 1);
        x.keep(3);
        due(x.clear(5), 1); // on it the levels were told
        law(x, 2, "1=2");
        due(x.back(3), 37);
        due(x.of(0, 2), 7777);
        due(x.level(0), 4);
        due(x.way(1), 1);
        due(x.count(16), 1);
        x.set(0, 2, 1);
        x.hours(200);
        due(x.back(4), 37);
        due(x.count(0), 37);
        due(x.of(0, 2), 7777);
        due(x.count(1), 77 * 30);
        due(x.back(4), 37); // as often as one likes
        due(x.back(2), LowFall.NOTHING);
        due(x.back(5), LowFall.CAST);
        LowFall other = new LowFall();
        BusyCity.makeOther(other);
        other.keep(4);
        other.begin();
        BusyCity.make(other); // and on tape 0 an image of it
        other.back(4);
        LowFall first = BusyCity.made();
        first.keep(4);
        first.begin();
        BusyCity.makeOther(first);
        first.back(4);
        LowFall never = BusyCity.made();
        for (LowFall y : new LowFall[] {other, first, never}) {
            for (int d = 0; d < 6; d++) y.clear(d);
        }
        due(BusyCity.look(first).equals(BusyCity.look(never)) ? 1 : 0, 1);
        never = new LowFall();
        BusyCity.makeOther(never);
        never.clear(5);
        due(BusyCity.look(other).equals(BusyCity.look(never)) ? 1 : 0, 1);
        says("43: how many CELLS have FOUL in cellars there");
        due(x.toss(4), 1);
        x.set(99, 2, 5000);
        x.hours(1);
        x.keep(2);
        due(x.toss(2), 1); // 50 tons are HOLD
        x.set(99, 2, 100);
        x.hours(1);
        due(x.toss(2), 1); // there: not as it is now
        x.keep(2);
        due(x.toss(2), 2);
        x.begin();
        due(x.toss(2), 2);
        x.keep(2);
        due(x.toss(2), LowFall.THROWN);
        due(x.clear(2), 6); // it was thrown, and is still held
    }

    private static void copies() {
        says("47: n elements of the row on TAPE d from place i on go to the row on TAPE e from place j on (as they all were before): n");
        LowFall x = new LowFall();
        for (int sort = 1; sort <= 5; sort++) {
            row(x, 0, sort, 1, 0, 1, 1, 0);
            row(x, 1, sort, 0, 0, 0);
            due(x.copy(0, 2, 1, 0, 3), 3);
            due(x.at(1, 0) * 100 + x.at(1, 1) * 10 + x.at(1, 2), 110);
            due(x.copy(0, 0, 1, 2, 1), 1);
            due(x.at(1, 2), 1);
            due(x.copy(0, 5, 1, 3, 0), 0);
        }
        for (int step = -3; step <= 3; step++) { // within one row, up and down
            row(x, 2, 4, 10, 11, 12, 13, 14, 15, 16);
            int i = Math.max(0, -step), j = Math.max(0, step);
            due(x.copy(2, i, 2, j, 4), 4);
            for (int k = 0; k < 7; k++) due(x.at(2, k), k >= j && k < j + 4 ? 10 + k - step : 10 + k);
        }
        x.tape(3, 2, 100);
        x.tape(4, 2, 100);
        x.put(3, 99, -7);
        due(x.copy(3, 0, 4, 0, 100), 100);
        due(x.at(4, 99), -7);
        due(x.copy(3, 0, 4, 0, 101), LowFall.PLACE);
        due(x.copy(3, 1, 4, 0, 100), LowFall.PLACE);
        due(x.copy(3, 0, 4, 1, 100), LowFall.PLACE);
    }

    private static void counts() {
        says("48: 0 HOUR, 1 tons of FOUL made, 2 of RAIN made, 3 DIRT, 4 SEA, 5 GONE, 6 BACK, 7 FOUL and 8 RAIN in drains, cellars and TANKS");
        LowFall x = new LowFall();
        x.set(0, 2, 9000);
        x.rain(7);
        x.old(0, 1, 90, 1);
        x.set(1, 4, 1);
        x.out(50, 9, 3, 1);
        x.set(50, 2, 200);
        x.hours(10);
        due(x.count(0), 10);
        due(x.count(1), 10 * 92);
        due(x.count(2), 10 * 99 * 7);
        due(x.count(3), 200);
        due(x.count(1) - x.count(3) - x.count(5) - x.count(6), x.count(7));
        due(x.count(2) - x.count(4), x.count(8));
        due(x.count(5), 20);
        due(x.count(6), 0);
        due(x.count(7), x.of(0, 9) + x.of(0, 11) + x.of(50, 9) + x.of(50, 11) + x.house(50, 0));
        levels(x, 0, 1);
        x.hours(2);
        due(x.count(6), 2); // at the even hour alone the gate is open
        x = new LowFall();
        x.set(0, 2, 4000);
        x.rain(3);
        x.out(0, 35, 1, -128);
        x.hours(3);
        due(x.house(0, 0), 35);
        due(x.of(0, 9), 50);
        due(x.of(0, 11), 35);
        due(x.count(7), 120);
        x.set(0, 2, 0);
        x.out(0, 50, 1, -128);
        x.hours(1);
        due(x.house(0, 1) + x.of(0, 10) + x.of(0, 12), 12);
        due(x.count(8), 1200);
        x.out(1, 2, 1, -128);
        x.hours(1);
        due(x.house(1, 1), 2);
        due(x.count(8), 1500);
        says("48: 9 bricks in THE KILN, 10 IDLE GANGS by DAYS, ... 13 CELLS that CRACKED, 14 ILL, 15 LINES, 16 LAWS, 17 tellings of THE MAP");
        x = new LowFall();
        x.kiln(99);
        x.route(0, 1, 101, 1);
        x.take(1, 0);
        x.take(1, 0);
        x.gangs(0, 4);
        x.gangs(1, 3);
        days(x, 1);
        due(x.count(9), 99);
        due(x.count(10), 7);
        due(x.count(15), 2);
        days(x, 1);
        due(x.count(9), 98);
        due(x.count(10), 10);
        due(x.count(11) + x.count(12) + x.count(13) + x.count(14) + x.count(16) + x.count(17) + x.count(18), 0);
        law(x, 0, "1=1");
        x.map(0, -1, 0);
        due(x.count(16), 1);
        due(x.count(17), 1);
        says("48: NONE for another what");
        for (int what : new int[] {-1, 19, 100, Integer.MAX_VALUE, Integer.MIN_VALUE}) due(x.count(what), NONE);
    }
}
