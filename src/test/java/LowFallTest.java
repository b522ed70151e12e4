// Promise by promise: ordinary calls, the edges that the document names, and wrong ones, with answers reckoned by hand.
public final class LowFallTest {
    private static final int IAE = 1, ISE = 2;
    private static int wrong = 0, looked = 0;
    private static String promise = "";

    public static void main(String[] args) {
        aNewObject();
        begin();
        setAndOf();
        tide();
        oldDrainsAndMap();
        routes();
        bestOfLikeRoutes();
        takingLines();
        digging();
        cracking();
        strengths();
        strengthsAtTheirEnds();
        crossing();
        rainAndRunoff();
        carriedFlow();
        lifts();
        outs();
        cellars();
        pumps();
        hoursAndBridge();
        laws();
        lawFaults();
        lawFacts();
        lawsAtWork();
        choices();
        shares();
        rows();
        images();
        imagesOfTwoCities();
        copies();
        counts();
        System.out.println(wrong == 0 ? "promises: " + looked + " answers as due" : "promises: " + wrong + " wrong");
        if (wrong != 0) System.exit(1);
    }

    private static void due(String call, long got, long want) {
        looked++;
        if (got == want) return;
        wrong++;
        System.out.println(promise + ": " + call + " answered " + got + ", due is " + want);
    }

    private static int kindOf(RuntimeException e) {
        if (e.getClass() == IllegalArgumentException.class) return IAE;
        return e.getClass() == IllegalStateException.class ? ISE : 3;
    }

    private static void ofThrows(LowFall x, int cell, int what, int kind) {
        int got = 0;
        try { x.of(cell, what); } catch (RuntimeException e) { got = kindOf(e); }
        due("throws of(" + cell + ", " + what + ")", got, kind);
    }

    private static void lineOfThrows(LowFall x, int line, int i, int what, int kind) {
        int got = 0;
        try { x.lineOf(line, i, what); } catch (RuntimeException e) { got = kindOf(e); }
        due("throws lineOf(" + line + ", " + i + ", " + what + ")", got, kind);
    }

    private static void houseThrows(LowFall x, int cell, int what, int kind) {
        int got = 0;
        try { x.house(cell, what); } catch (RuntimeException e) { got = kindOf(e); }
        due("throws house(" + cell + ", " + what + ")", got, kind);
    }

    private static void atThrows(LowFall x, int d, int i, int kind) {
        int got = 0;
        try { x.at(d, i); } catch (RuntimeException e) { got = kindOf(e); }
        due("throws at(" + d + ", " + i + ")", got, kind);
    }

    private static void levelThrows(LowFall x, int hour, int kind) {
        int got = 0;
        try { x.level(hour); } catch (RuntimeException e) { got = kindOf(e); }
        due("throws level(" + hour + ")", got, kind);
    }

    private static void write(LowFall x, int d, String text) {
        x.tape(d, 1, text.length());
        for (int i = 0; i < text.length(); i++) x.put(d, i, text.charAt(i));
    }

    private static int law(LowFall x, int kind, int day, String text) {
        write(x, 5, text);
        return x.law(kind, day, 5);
    }

    private static void levels(LowFall x, int... row) {
        x.tape(5, 1, row.length);
        for (int i = 0; i < row.length; i++) x.put(5, i, row[i]);
        x.tide(5);
    }

    private static void days(LowFall x, int n) {
        for (int i = 0; i < n; i++) x.hours(24);
    }

    private static void aNewObject() {
        promise = "1";
        LowFall x = new LowFall();
        for (int c = 0; c < 100; c += 33) {
            int[] first = {100, 0, 0, 50, 0, 0, -1, 0, 0, 0, 0, 0, 0, 50, 0, 0, 0};
            for (int what = 0; what <= 16; what++) due("of(" + c + ", " + what + ")", x.of(c, what), first[what]);
            due("mapOf", x.mapOf(c, 0, 0), -9);
            houseThrows(x, c, 0, ISE);
            houseThrows(x, c, 2, ISE);
        }
        for (int what = 0; what <= 18; what++) due("count(" + what + ")", x.count(what), 0);
        due("level", x.level(7), 0);
        due("way", x.way(0), -9);
        due("take", x.take(1, 0), LowFall.UNABLE);
        due("bridge", x.bridge(0), 0);
        due("rain", x.rain(0), 0);
        due("kiln", x.kiln(0), 0);
        for (int d = 0; d < 6; d++) due("clear", x.clear(d), 0);
    }

    private static void begin() {
        promise = "2";
        LowFall x = new LowFall();
        x.set(3, 2, 500);
        x.rain(9);
        x.old(3, 4, 80, 2);
        x.map(3, 4, 80);
        x.route(0, 5, 90, 1);
        x.take(2, 1);
        x.kiln(100);
        x.bridge(7);
        x.lift(8, 9, 5, 5);
        x.out(9, 50, 5, 5);
        levels(x, 5, 6);
        law(x, 0, 0, "h>5");
        x.clear(5);
        x.toss(0);
        x.keep(0);
        x.hours(50);
        x.tape(1, 3, 4);
        x.put(1, 2, 77);
        due("count(18)", x.count(18), 1);
        due("begin()", x.begin(), 0);
        for (int what = 0; what <= 18; what++) due("count(" + what + ")", x.count(what), 0);
        due("of people", x.of(3, 2), 0);
        due("of down", x.of(3, 6), -1);
        due("of rain", x.of(3, 10), 0);
        due("way", x.way(0), -9);
        due("take", x.take(1, 0), LowFall.UNABLE);
        due("size", x.size(0), LowFall.NONE);
        due("level", x.level(1), 0);
        due("inForce", x.inForce(0, 9), -9);
        due("rain", x.rain(0), 0);
        due("kiln", x.kiln(0), 0);
        due("bridge", x.bridge(0), 0);
        houseThrows(x, 8, 2, ISE);
        houseThrows(x, 9, 0, ISE);
        due("out of an old tank", x.out(9, 99, 5, 5), 0);
        due("its tank", x.house(9, 1), 0);
        due("tapes stay", x.at(1, 2), 77);
        due("images stay", x.clear(0), 6);
    }

    private static void setAndOf() {
        promise = "3, 4";
        LowFall x = new LowFall();
        int[] first = {100, 0, 0, 50, 0, 0}, most = {300, 3, 9999, 99, 1, 1};
        for (int what = 0; what < 6; what++) {
            due("set beyond", x.set(42, what, most[what] + 1), LowFall.NONE);
            due("set below", x.set(42, what, -1), LowFall.NONE);
            due("set most", x.set(42, what, most[what]), first[what]);
            due("of", x.of(42, what), most[what]);
            due("set least", x.set(42, what, 0), most[what]);
            due("of", x.of(42, what), 0);
        }
        due("set what -1", x.set(42, -1, 0), LowFall.NONE);
        due("set what 6", x.set(42, 6, 0), LowFall.NONE);
        due("set cell -1", x.set(-1, 0, 0), LowFall.NONE);
        due("set cell 100", x.set(100, 0, 0), LowFall.NONE);
        due("set cell 99", x.set(99, 0, 7), 100);
        ofThrows(x, -1, 0, IAE);
        ofThrows(x, 100, 99, IAE);
        ofThrows(x, 0, -1, ISE);
        ofThrows(x, 0, 17, ISE);
        ofThrows(x, 99, 16, 0);
        x.old(10, 20, 33, 4);
        due("of 6", x.of(10, 6), 20);
        due("of 7", x.of(10, 7), 33);
        due("of 8", x.of(10, 8), 4);
        due("of 13", x.of(10, 13), 210);
    }

    private static void tide() {
        promise = "5 to 8";
        LowFall x = new LowFall();
        due("tide(-1)", x.tide(-1), LowFall.NONE);
        due("tide(6)", x.tide(6), LowFall.NONE);
        due("tide of nothing", x.tide(0), LowFall.NOTHING);
        x.tape(0, 2, 4);
        due("tide of shorts", x.tide(0), LowFall.CAST);
        x.keep(0);
        due("tide of an image", x.tide(0), LowFall.CAST);
        x.tape(0, 1, 0);
        due("tide of none", x.tide(0), LowFall.FULL);
        x.tape(0, 1, 61);
        due("tide of 61", x.tide(0), LowFall.FULL);
        x.tape(0, 1, 60);
        x.put(0, 59, -128);
        due("tide of 60", x.tide(0), 60);
        due("level", x.level(59), -128);
        due("level", x.level(60), 0);
        due("level", x.level(119), -128);
        x.put(0, 59, 5);
        due("the tide is no tape", x.level(59), -128);
        due("level at the end", x.level(100000), 0);
        levelThrows(x, 100001, IAE);
        levelThrows(x, -1, IAE);
        levelThrows(x, Integer.MIN_VALUE, IAE);
        x.tape(0, 1, 1);
        x.put(0, 0, 127);
        due("tide of 1", x.tide(0), 1);
        due("level", x.level(99999), 127);

        // Zeros but for a 1 at hour 20 of 40: what is let out in the 12 hours before it comes back.
        int[] row = new int[40];
        row[20] = 1;
        levels(x, row);
        due("comesBack(7)", x.comesBack(7), 0);
        due("comesBack(8)", x.comesBack(8), 1);
        due("comesBack(19)", x.comesBack(19), 1);
        due("comesBack(20)", x.comesBack(20), 0);
        due("comesBack(-1)", x.comesBack(-1), LowFall.NONE);
        due("comesBack(100000)", x.comesBack(100000), LowFall.NONE);
        due("comesBack(99999)", x.comesBack(99999), 0);
        due("window(8, 1)", x.window(8, 1), 21);
        due("window(8, 2)", x.window(8, 2), 20);
        due("window(3, 1)", x.window(3, 1), 3);
        due("window(3, 0)", x.window(3, 0), LowFall.UNABLE);
        due("window(-1, 0)", x.window(-1, 0), LowFall.NONE);
        due("window(100000, 0)", x.window(100000, 0), LowFall.NONE);
        due("window(0, -129)", x.window(0, -129), LowFall.NONE);
        due("window(0, 128)", x.window(0, 128), LowFall.NONE);
        due("window(0, 127)", x.window(0, 127), 0);
        due("window(0, -128)", x.window(0, -128), LowFall.UNABLE);
        x.begin();
        due("comesBack without a tide", x.comesBack(5), 0);
        due("window without a tide", x.window(99999, 1), 99999);
    }

    private static void oldDrainsAndMap() {
        promise = "9";
        LowFall x = new LowFall();
        due("old", x.old(55, 56, 300, 9), 0);
        due("old", x.old(55, 54, 0, 0), 0);
        due("old", x.old(55, 45, 0, 0), 0);
        due("old", x.old(55, 65, 77, 1), 0);
        due("old not beside", x.old(55, 66, 0, 0), LowFall.NONE);
        due("old itself", x.old(55, 55, 0, 0), LowFall.NONE);
        due("old over the edge", x.old(9, 10, 0, 0), LowFall.NONE);
        due("old over the edge", x.old(99, 100, 0, 0), LowFall.NONE);
        due("old -2", x.old(0, -2, 0, 0), LowFall.NONE);
        due("old cell", x.old(-1, -1, 0, 0), LowFall.NONE);
        due("old cell", x.old(100, 99, 0, 0), LowFall.NONE);
        due("old invert", x.old(55, 56, 301, 0), LowFall.NONE);
        due("old invert", x.old(55, 56, -1, 0), LowFall.NONE);
        due("old wide", x.old(55, 56, 0, 10), LowFall.NONE);
        due("old wide", x.old(55, 56, 0, -1), LowFall.NONE);
        due("of 6", x.of(55, 6), 65);
        due("of 7", x.of(55, 7), 77);
        due("old none", x.old(55, -1, 1, 2), 0);
        due("of 6", x.of(55, 6), -1);

        promise = "10 to 12";
        due("map", x.map(55, 65, 300), 1);
        due("map", x.map(55, -1, 0), 2);
        due("map not beside", x.map(55, 66, 0), LowFall.NONE);
        due("map cell", x.map(100, 99, 0), LowFall.NONE);
        due("map invert", x.map(55, 56, 301), LowFall.NONE);
        due("map invert", x.map(55, 56, -1), LowFall.NONE);
        x.hours(48);
        due("map", x.map(55, 54, 20), 3);
        due("mapOf day 1", x.mapOf(55, 0, 1), -1);
        due("mapOf day 1", x.mapOf(55, 1, 1), 0);
        due("mapOf day 2", x.mapOf(55, 0, 2), 54);
        due("mapOf day 2", x.mapOf(55, 1, 2), 20);
        due("mapOf late", x.mapOf(55, 1, 4999), 20);
        due("mapOf another", x.mapOf(56, 1, 4999), -9);
        due("mapOf day", x.mapOf(55, 1, 5000), LowFall.NONE);
        due("mapOf day", x.mapOf(55, 1, -1), LowFall.NONE);
        due("mapOf what", x.mapOf(55, 2, 1), LowFall.NONE);
        due("mapOf what", x.mapOf(55, -1, 1), LowFall.NONE);
        due("mapOf cell", x.mapOf(100, 1, 1), LowFall.NONE);
        due("cut", x.cut(55), 1);
        due("mapOf after the cut", x.mapOf(55, 0, 2), -1);
        due("mapOf after the cut", x.mapOf(55, 1, 2), 1);
        due("cut again", x.cut(55), 0);
        due("cut untold", x.cut(0), 1);
        due("mapOf", x.mapOf(0, 0, 2), -1);
        due("cut cell", x.cut(100), LowFall.NONE);
        due("cut cell", x.cut(-1), LowFall.NONE);
        x.old(55, -1, 2, 2);
        due("cut where the invert is another", x.cut(55), 1);
        x.old(55, 54, 2, 2);
        due("cut where down is another", x.cut(55), 1);
        due("tellings", x.count(17), 7);
        for (int i = 8; i <= 200; i++) due("map", x.map(1, 2, i), i);
        due("map full", x.map(1, 2, 3), LowFall.FULL);
        due("map full, but wrong", x.map(1, 3, 3), LowFall.NONE);
        due("cut full, not wanted", x.cut(55), 0);
        due("cut full", x.cut(99), LowFall.FULL);
        due("tellings", x.count(17), 200);
    }

    private static void routes() {
        promise = "13, 14";
        LowFall x = new LowFall();
        due("route cell", x.route(-1, 5, 90, 1), LowFall.NONE);
        due("route cell", x.route(0, 100, 90, 1), LowFall.NONE);
        due("route itself", x.route(5, 5, 90, 1), LowFall.NONE);
        due("route z", x.route(0, 5, 301, 1), LowFall.NONE);
        due("route z", x.route(0, 5, -1, 1), LowFall.NONE);
        due("route f", x.route(0, 5, 90, 0), LowFall.NONE);
        due("route f", x.route(0, 5, 90, 10), LowFall.NONE);
        // From 11 to 22, invert 99 down to 97: depths 1, 2, 3; by 21 the soil is hard.
        x.set(21, 1, 3);
        due("route", x.route(11, 22, 99, 1), 2 + 4 + 6);
        due("way", x.way(1), 12);
        x.set(12, 1, 3);
        x.set(12, 0, 101);
        due("route by the other", x.route(11, 22, 99, 1), 2 + 2 * 5 + 6);
        due("way", x.way(1), 21);
        due("way", x.way(2), 22);
        due("way beyond", x.way(3), -9);
        due("way before", x.way(-1), -9);
        x.set(21, 4, 1);
        due("route round a river", x.route(11, 22, 99, 1), 2 + 3 * 5 + 6);
        x.set(12, 4, 1);
        due("route between rivers", x.route(11, 22, 99, 1), LowFall.UNABLE);
        due("the route stays", x.way(1), 12);
        x.set(22, 4, 1);
        x.set(12, 4, 0);
        due("route to a river", x.route(11, 22, 99, 1), 2 + 3 * 5 + 6);
        x.set(11, 4, 1);
        due("route from a river", x.route(11, 22, 99, 1), LowFall.UNABLE);
        due("route to invert 0", x.route(90, 99, 9, 1), 2 * (91 + 92 + 93 + 94 + 95 + 96 + 97 + 98 + 99 + 100));
        due("route below 0", x.route(90, 99, 8, 1), LowFall.UNABLE);
        // Above the ground a dam is built at 9 times what is lacking; at it nothing is dug.
        due("route over the ground", x.route(50, 52, 102, 2), 9 * 2 + 0 + 2 * 2);
        due("route back and up", x.route(99, 88, 99, 1), 2 + 4 + 6);
        due("way", x.way(1), 89);
        due("route left and down", x.route(9, 18, 99, 1), 2 + 4 + 6);
        due("way", x.way(1), 8);
        due("the longest", x.route(70, 9, 160, 4) > 0 ? x.way(16) : 0, 9);
        due("the whole diagonal", x.route(90, 9, 172, 4) > 0 ? x.way(18) : 0, 9);
    }

    private static void bestOfLikeRoutes() {
        promise = "13, like ways";
        LowFall x = new LowFall();
        // All ways are alike: the lesser cell is taken at each parting.
        x.route(0, 22, 99, 1);
        int[] first = {0, 1, 2, 12, 22};
        for (int i = 0; i < 5; i++) due("way(" + i + ")", x.way(i), first[i]);
        x.route(22, 0, 99, 1);
        int[] back = {22, 12, 2, 1, 0};
        for (int i = 0; i < 5; i++) due("way(" + i + ")", x.way(i), back[i]);
        x.route(20, 2, 99, 1);
        int[] up = {20, 10, 0, 1, 2};
        for (int i = 0; i < 5; i++) due("way(" + i + ")", x.way(i), up[i]);
        x.route(2, 20, 99, 1);
        int[] down = {2, 1, 0, 10, 20};
        for (int i = 0; i < 5; i++) due("way(" + i + ")", x.way(i), down[i]);
        // A hard cell on the first way puts it out by one ton alone.
        x.set(1, 0, 101);
        x.route(0, 22, 99, 1);
        int[] other = {0, 10, 11, 12, 22};
        for (int i = 0; i < 5; i++) due("way(" + i + ")", x.way(i), other[i]);
    }

    private static void takingLines() {
        promise = "15 to 19";
        LowFall x = new LowFall();
        due("take without a route", x.take(1, 0), LowFall.UNABLE);
        due("take width", x.take(0, 0), LowFall.NONE);
        due("take width", x.take(10, 0), LowFall.NONE);
        due("take cement", x.take(1, 2), LowFall.NONE);
        due("take cement", x.take(1, -1), LowFall.NONE);
        due("size", x.size(0), LowFall.NONE);
        x.route(0, 2, 90, 3);
        for (int k = 0; k < 8; k++) due("take", x.take(9, 1), k);
        due("take a ninth", x.take(9, 1), LowFall.FULL);
        due("take a ninth, wrong", x.take(10, 1), LowFall.NONE);
        due("lines", x.count(15), 8);
        due("size", x.size(7), 3);
        due("size", x.size(8), LowFall.NONE);
        due("size", x.size(-1), LowFall.NONE);
        int[] told = {2, 84, 32, 0, -9, 0, 0};
        for (int what = 0; what < 7; what++) due("lineOf", x.lineOf(3, 2, what), told[what]);
        x.set(2, 0, 80);
        due("dig goes with the ground", x.lineOf(3, 2, 2), 36);
        lineOfThrows(x, 8, 0, 0, IAE);
        lineOfThrows(x, -1, 0, 0, IAE);
        lineOfThrows(x, 0, 99, 7, IAE);
        lineOfThrows(x, 0, 0, -1, IAE);
        lineOfThrows(x, 0, 3, 0, ISE);
        lineOfThrows(x, 0, -1, 6, ISE);
        due("gangs", x.gangs(0, 4), 0);
        due("gangs", x.gangs(0, 1), 4);
        due("gangs 5", x.gangs(0, 5), LowFall.NONE);
        due("gangs -1", x.gangs(0, -1), LowFall.NONE);
        due("gangs of none", x.gangs(8, 1), LowFall.NONE);
        due("gangs", x.gangs(0, 0), 1);
        due("kiln", x.kiln(9999), 0);
        due("kiln", x.kiln(10000), LowFall.NONE);
        due("kiln", x.kiln(-1), LowFall.NONE);
        due("kiln", x.kiln(0), 9999);
    }

    private static void digging() {
        promise = "31, a day's work";
        LowFall x = new LowFall();
        x.route(0, 1, 80, 1); // digs 40 and 42
        x.take(2, 0);
        x.gangs(0, 1);
        x.kiln(150);
        x.hours(23);
        due("dug before the day", x.lineOf(0, 1, 3), 0);
        x.hours(1);
        due("dug", x.lineOf(0, 1, 3), 40);
        due("not cell 0", x.lineOf(0, 0, 3), 0);
        due("bricks", x.count(9), 150);
        due("shut", x.of(1, 15), 1);
        x.hours(24);
        due("dug", x.lineOf(0, 1, 3), 80);
        x.hours(24);
        due("laid", x.lineOf(0, 1, 4), 3);
        due("dry", x.lineOf(0, 1, 5), 0);
        due("bricks", x.count(9), 450 - 200);
        due("no longer shut", x.of(1, 15), 0);
        due("shut now", x.of(0, 15), 1);
        x.kiln(0);
        x.hours(24);
        due("dug at once, 40 is its dig", x.lineOf(0, 0, 3), 40);
        x.hours(24);
        due("laid with what is left", x.lineOf(0, 0, 4), 5);
        due("bricks", x.count(9), 50);
        due("nothing shut", x.of(0, 15), 0);
        x.hours(24);
        due("no gangs idle", x.count(10), 0);
        // Two lines: the first takes the bricks, the gangs of the second are idle.
        x.begin();
        x.route(50, 51, 100, 1);
        x.take(1, 0);
        x.take(1, 0);
        x.gangs(0, 3);
        x.gangs(1, 2);
        x.kiln(100);
        x.hours(24);
        due("first", x.lineOf(0, 1, 3), 120);
        due("second", x.lineOf(1, 1, 3), 80);
        x.kiln(0);
        x.hours(24);
        due("first laid", x.lineOf(0, 1, 4), 2);
        due("second not", x.lineOf(1, 1, 4), -9);
        due("idle", x.count(10), 2);
        x.hours(24);
        due("a dig of 0 is dug already", x.lineOf(0, 0, 3), 0);
        due("both idle", x.count(10), 2 + 3 + 2);
        x.gangs(1, 0);
        due("without gangs not shut", x.of(51, 15), 0);
        x.kiln(200);
        x.hours(24);
        due("all laid", x.lineOf(0, 0, 4), 4);
        due("none without gangs", x.lineOf(1, 1, 4), -9);
        due("idle no more", x.count(10), 7);
    }

    // Cell 11, opened 34 deep in soil 2: a pull of 102, 51 on it and 25 on those beside.
    private static LowFall tenderCity() {
        LowFall x = new LowFall();
        int[] cell = {11, 1, 10, 12, 22}, people = {10, 20, 30, 40, 50}, tender = {49, 24, 25, 0, 0};
        for (int k = 0; k < 5; k++) {
            x.set(cell[k], 2, people[k]);
            x.set(cell[k], 3, tender[k]);
        }
        x.set(21, 3, 0);
        x.set(11, 1, 2);
        x.route(21, 11, 68, 2);
        x.take(1, 0);
        x.gangs(0, 3);
        x.kiln(9999);
        return x;
    }

    private static void cracking() {
        promise = "31, pulled walls";
        LowFall x = tenderCity();
        days(x, 1);
        due("dug 120 of 136", x.lineOf(0, 1, 3), 120);
        due("nothing cracks before it is opened", x.count(13), 0);
        days(x, 1);
        due("dug", x.lineOf(0, 1, 3), 240);
        due("by 2 above 49", x.of(11, 14), 1);
        due("by 1 above 24", x.of(1, 14), 1);
        due("not above 25", x.of(10, 14), 0);
        due("by 25 above 0", x.of(12, 14), 1);
        due("not beside", x.of(22, 14), 0);
        due("nobody there", x.of(21, 14), 0);
        due("the town owes", x.count(12), 10 * 2 + 20 * 1 + 40 * 25);
        due("not the builder", x.count(11), 0);
        due("cracked", x.count(13), 3);
        x.set(11, 3, 0);
        days(x, 2);
        due("cell 21 opened, 32 deep: 8 on 22, and 11 cracks but once", x.count(12), 1040 + 50 * 8);
        due("cracked", x.count(13), 4);

        promise = "31, who owes";
        x = tenderCity();
        law(x, 1, 0, "p>15");
        days(x, 2);
        due("the builder owes", x.count(11), 20 * 1 + 40 * 25);
        due("the town owes", x.count(12), 10 * 2);
        // What is dug to the ton is opened as well.
        x = tenderCity();
        x.set(11, 1, 1); // dig 102, pull 68, on it 34 and beside 17
        x.route(21, 11, 62, 2); // dig 120, pull 80
        x.take(1, 0);
        x.gangs(0, 0);
        x.gangs(1, 3);
        days(x, 1);
        due("dug to the ton", x.lineOf(1, 1, 3) - x.lineOf(1, 1, 2), 0);
        due("cracked by 20", x.count(12), 40 * 20);
        // A dam is no depth: it pulls nothing.
        x.begin();
        x.set(0, 2, 9);
        x.set(0, 3, 0);
        x.route(1, 0, 300, 9);
        x.take(1, 0);
        x.gangs(0, 4);
        x.hours(240);
        x.hours(48);
        due("dug as a dam: 1719 in 11 days", x.lineOf(0, 1, 3), 1760);
        due("nothing cracks", x.count(13), 0);
    }

    private static void strengths() {
        promise = "20 to 22";
        LowFall x = new LowFall();
        x.route(0, 1, 92, 2); // depths 8 and 10
        x.take(1, 0);
        x.take(1, 1);
        x.set(40, 0, 300);
        x.route(40, 41, 199, 1); // depths 101 and -98
        x.take(1, 0);
        x.set(60, 0, 300);
        x.route(60, 61, 0, 1);
        due("no way below", x.way(0), 40);
        x.route(60, 61, 1, 1); // depths 299 and 100
        x.take(1, 1);
        for (int k = 0; k < 4; k++) x.gangs(k, 4);
        x.set(0, 2, 100);
        due("bad before it is laid", x.bad(0, 1, true), LowFall.LATER);
        due("bears before it is laid", x.bears(0, 1), LowFall.LATER);
        x.kiln(9999);
        days(x, 2);
        due("laid", x.lineOf(0, 1, 4), 2);
        due("laid", x.lineOf(1, 1, 4), 2);
        due("lime, dry, depth 10", x.bears(0, 1), 7);
        due("new, depth 10", x.bears(1, 1), 2);
        days(x, 2);
        due("laid wet", x.lineOf(0, 0, 5), 1);
        due("lime, wet, depth 8", x.bears(0, 0), 12);
        due("new, wet, depth 8", x.bears(1, 0), 4);
        due("new carries at once", x.carries(1), 1);
        due("lime doesn't", x.carries(0), 0);
        due("bad", x.bad(1, 1, true), 1);
        due("bad again", x.bad(1, 1, true), 0);
        due("told bad", x.lineOf(1, 1, 6), 1);
        due("new and bad, depth 10", x.bears(1, 1), 4); // 10 + 12, half
        due("carries on day 4", x.carries(1), 1);
        due("new and bad, depth 8", x.bad(1, 0, true), 1);
        due("new and bad, depth 8", x.bears(1, 0), 5);
        due("carries no more", x.carries(1), 0);
        due("not bad", x.bad(1, 0, false), 1);
        due("not bad again", x.bad(1, 0, false), 0);
        due("carries again", x.carries(1), 1);
        due("wet and bad", x.bad(0, 0, true), 1);
        due("wet and bad", x.bears(0, 0), 20); // 32, 16, 8
        x.bad(0, 0, false);
        days(x, 7);
        due("day 11", x.carries(0), 0);
        days(x, 1);
        due("day 12", x.carries(0), 1);
        due("bad line", x.bad(4, 0, true), LowFall.NONE);
        due("bad cell", x.bad(0, 2, true), LowFall.NONE);
        due("bad cell", x.bad(0, -1, true), LowFall.NONE);
        due("bears line", x.bears(-1, 0), LowFall.NONE);
        due("bears cell", x.bears(0, 2), LowFall.NONE);
        due("carries line", x.carries(4), LowFall.NONE);
        due("carries line", x.carries(-1), LowFall.NONE);
        days(x, 10);
        // Line 2 laid its end on day 7 (dig 882, six days), its beginning later; 101 is more than lime ever bears.
        due("laid above the ground", x.lineOf(2, 1, 4), 7);
        due("bears at once", x.bears(2, 1), 7);
        due("lime never bears 101", x.bears(2, 0), LowFall.UNABLE);
        // Line 3: 100 deep with dig 200 laid on day 3, 299 deep with dig 598 laid on day 8.
        due("laid", x.lineOf(3, 1, 4), 3);
        due("new, depth 100", x.bears(3, 1), 18);
        due("laid", x.lineOf(3, 0, 4), 8);
        due("new, depth 299", x.bears(3, 0), 57);
        due("bad, depth 299", x.bad(3, 0, true), 1);
        due("never", x.bears(3, 0), LowFall.UNABLE);
        x.bad(3, 0, false);
        x.set(60, 0, 301 - 1);
        x.set(40, 0, 299);
        due("lime, depth 100", x.bears(2, 0), x.lineOf(2, 0, 4) + 50);
    }

    private static void strengthsAtTheirEnds() {
        promise = "20 to 22, at their ends";
        LowFall x = new LowFall();
        x.set(0, 0, 300);
        x.route(0, 1, 200, 1);
        x.take(1, 0); // lime, depth 100
        x.set(20, 0, 300);
        x.route(20, 21, 199, 1);
        x.take(1, 0); // lime, depth 101
        x.set(41, 0, 300);
        x.route(40, 41, 1, 1);
        x.take(1, 1); // new, depth 300
        x.route(60, 61, 99, 1);
        x.take(1, 0); // lime, wet by one ton
        for (int k = 0; k < 4; k++) x.gangs(k, 4);
        x.kiln(9999);
        days(x, 1);
        x.hours(23);
        x.set(61, 2, 100);
        x.hours(1);
        due("one ton", x.of(61, 9), 1);
        due("laid", x.lineOf(3, 1, 4), 2);
        due("is wet", x.lineOf(3, 1, 5), 1);
        days(x, 90);
        due("lime, depth 100", x.carries(0), 1);
        due("lime, depth 101", x.carries(1), 0);
        due("new, depth 300", x.carries(2), 1);
        due("new, depth 300", x.bears(2, 1) - x.lineOf(2, 1, 4), 49);
    }

    private static void crossing() {
        promise = "23";
        LowFall x = new LowFall();
        x.route(0, 1, 90, 1);
        x.take(1, 0);
        due("untold", x.cross(0, 0, 0), 0);
        x.map(0, -1, 90);
        due("no drain", x.cross(0, 0, 0), 0);
        int[] inverts = {87, 88, 90, 92, 93}, how = {1, 3, 3, 3, 2};
        for (int k = 0; k < 5; k++) {
            x.map(0, 10, inverts[k]);
            due("over " + inverts[k], x.cross(0, 0, 0), how[k]);
        }
        x.hours(24);
        x.map(0, 10, 10);
        due("day 0", x.cross(0, 0, 0), 2);
        due("day 1", x.cross(0, 0, 1), 1);
        due("day 4999", x.cross(0, 0, 4999), 1);
        due("day 5000", x.cross(0, 0, 5000), LowFall.NONE);
        due("day -1", x.cross(0, 0, -1), LowFall.NONE);
        due("line", x.cross(1, 0, 0), LowFall.NONE);
        due("cell", x.cross(0, 2, 0), LowFall.NONE);
        due("cell", x.cross(0, -1, 0), LowFall.NONE);
    }

    private static void rainAndRunoff() {
        promise = "24, 31";
        LowFall x = new LowFall();
        due("rain", x.rain(201), LowFall.NONE);
        due("rain", x.rain(-1), LowFall.NONE);
        due("rain", x.rain(200), 0);
        due("rain", x.rain(7), 200);
        x.set(0, 2, 1999);
        x.set(2, 4, 1);
        x.set(2, 2, 900);
        x.old(0, 1, 90, 1);
        x.old(1, 2, 90, 2);
        x.hours(1);
        due("19 foul and 1 rain let on", x.of(0, 9), 0);
        due("rain stays", x.of(0, 10), 6);
        due("foul came", x.of(1, 9), 19);
        due("all at once: its own rain went on, one came", x.of(1, 10), 1);
        due("sea", x.count(4), 7);
        due("no rain on a river", x.of(2, 10), 0);
        due("no dirt yet", x.count(3), 0);
        due("made", x.count(1), 19);
        due("made", x.count(2), 99 * 7);
        x.hours(1);
        due("dirt", x.count(3), 19);
        due("sea", x.count(4), 7 + 8);
        due("foul in all", x.count(7), 19);
        due("rain in all", x.count(8), 2 * 99 * 7 - 15);
    }

    private static void carriedFlow() {
        promise = "31, lines that carry";
        LowFall x = new LowFall();
        x.route(0, 2, 100, 1);
        x.take(1, 1);
        x.gangs(0, 4);
        x.kiln(900);
        days(x, 6);
        due("carries", x.carries(0), 1);
        due("hold", x.of(0, 13), 110);
        due("hold at the end", x.of(2, 13), 110);
        x.old(0, 10, 50, 9);
        x.old(2, 12, 50, 1);
        x.set(0, 2, 5000);
        x.set(2, 2, 5000);
        x.hours(1);
        due("30 at most", x.of(0, 9), 20);
        due("came", x.of(1, 9), 30);
        due("the last lets on to its down, 20 at most", x.of(2, 9), 30);
        due("its down", x.of(12, 9), 20);
        due("not to the down of the first", x.of(10, 9), 0);
        due("hold with both", x.of(0, 13), 50 + 360 + 60);
        // A second line over the same cells, wider: the first one still counts.
        x.route(0, 2, 100, 1);
        x.take(3, 1);
        x.gangs(1, 4);
        days(x, 6);
        due("carries", x.carries(1), 1);
        due("hold by the first", x.of(1, 13), 110);
        x.bad(0, 2, true);
        x.set(2, 0, 300);
        due("neither carries", x.carries(0) + x.carries(1), 0);
        due("hold by none", x.of(1, 13), 50);
    }

    private static void lifts() {
        promise = "25 to 27, 30";
        LowFall x = new LowFall();
        due("lift to itself", x.lift(5, 5, 1, 1), LowFall.NONE);
        due("lift cell", x.lift(100, 5, 1, 1), LowFall.NONE);
        due("lift to", x.lift(5, -1, 1, 1), LowFall.NONE);
        due("lift power", x.lift(5, 6, 0, 1), LowFall.NONE);
        due("lift power", x.lift(5, 6, 10000, 1), LowFall.NONE);
        due("lift coal", x.lift(5, 6, 1, -1), LowFall.NONE);
        due("lift coal", x.lift(5, 6, 1, 10000), LowFall.NONE);
        due("lift", x.lift(5, 99, 9999, 9999), 0);
        due("coal", x.house(5, 2), 9999);
        for (int i = 1; i <= 9; i++) due("coal", x.coal(5, 9999), 9999 * (i + 1));
        due("coal above", x.coal(5, 10), LowFall.FULL);
        due("coal most", x.coal(5, 9), 99999);
        due("coal none", x.coal(5, 0), LowFall.NONE);
        due("coal much", x.coal(5, 10000), LowFall.NONE);
        due("coal elsewhere", x.coal(6, 1), LowFall.NONE);
        due("coal cell", x.coal(100, 1), LowFall.NONE);
        due("stop", x.stop(5, false), 0);
        due("stop", x.stop(5, true), 1);
        due("stop again", x.stop(5, true), 0);
        due("stopped", x.house(5, 3), 1);
        due("stop elsewhere", x.stop(6, true), LowFall.NONE);
        due("stop cell", x.stop(-1, true), LowFall.NONE);
        due("in place of one", x.lift(5, 6, 50, 1), 0);
        due("not stopped", x.house(5, 3), 0);
        due("coal", x.house(5, 2), 1);
        houseThrows(x, 100, 0, IAE);
        houseThrows(x, 5, 4, IAE);
        houseThrows(x, 5, -1, IAE);
        houseThrows(x, 5, 0, ISE);
        houseThrows(x, 6, 2, ISE);
        for (int c = 20; c < 30; c++) x.lift(c, 0, 1, 1);
        due("a twelfth", x.out(30, 1, 1, 0), 0);
        due("a thirteenth", x.lift(31, 0, 1, 1), LowFall.FULL);
        due("a thirteenth", x.out(31, 1, 1, 0), LowFall.FULL);
        due("in place of a twelfth", x.lift(29, 0, 2, 2), 0);
        due("in place of an out", x.lift(30, 0, 1, 1), LowFall.UNABLE);
        due("in place of a lift", x.out(29, 1, 1, 1), LowFall.UNABLE);

        promise = "31, lifts";
        x.begin();
        x.set(10, 2, 9900);
        x.old(10, 11, 50, 9);
        x.lift(10, 20, 120, 1);
        x.lift(20, 30, 30, 9);
        x.hours(1);
        due("no letting on beside a lift, 99 lifted", x.of(10, 9), 0);
        due("nothing let on", x.of(11, 9), 0);
        due("99 are one begun", x.house(10, 2), 0);
        due("lifted twice in an hour", x.of(30, 9), 30);
        due("the rest", x.of(20, 9), 50);
        due("in cellars", x.of(20, 11), 19);
        x.coal(10, 5);
        x.stop(10, true);
        x.hours(1);
        due("stopped", x.house(10, 2), 5);
        x.stop(10, false);
        x.hours(1);
        due("120 at most are two begun", x.house(10, 2), 3);
        // A lift to a lesser cell works before that one's own in the next hour only.
        x.begin();
        x.set(50, 2, 1000);
        x.set(40, 4, 1);
        x.rain(3);
        x.lift(50, 40, 12, 5);
        x.hours(1);
        due("dirt", x.count(3), 10);
        due("sea", x.count(4), 2);
        due("left", x.of(50, 10), 1);
    }

    private static void outs() {
        promise = "29, 30";
        LowFall x = new LowFall();
        due("out cell", x.out(-1, 1, 1, 0), LowFall.NONE);
        due("out size", x.out(0, 0, 1, 0), LowFall.NONE);
        due("out size", x.out(0, 10000, 1, 0), LowFall.NONE);
        due("out gate", x.out(0, 1, 0, 0), LowFall.NONE);
        due("out gate", x.out(0, 1, 10000, 0), LowFall.NONE);
        due("out sill", x.out(0, 1, 1, 128), LowFall.NONE);
        due("out sill", x.out(0, 1, 1, -129), LowFall.NONE);
        due("out", x.out(0, 30, 9999, 0), 0);
        x.set(0, 2, 2000);
        x.rain(6);
        x.hours(1);
        due("level is not below the sill", x.count(5), 0);
        due("foul", x.house(0, 0), 20);
        due("rain", x.house(0, 1), 6);
        x.hours(1);
        due("foul first", x.house(0, 0), 24);
        due("foul stays", x.of(0, 9), 16);
        houseThrows(x, 0, 2, ISE);
        due("a lesser one", x.out(0, 20, 22, 1), 0);
        due("rain goes back first", x.house(0, 1), 0);
        due("then foul", x.house(0, 0), 20);
        due("in the drain", x.of(0, 9), 20);
        due("in the drain", x.of(0, 10), 12);
        due("a greater one", x.out(0, 24, 22, 1), 0);
        due("foul stays", x.house(0, 0), 20);

        promise = "31, outs";
        x.hours(1);
        due("gone", x.count(5), 22);
        due("in the tank", x.house(0, 0), 2);
        x.set(0, 2, 0);
        x.out(0, 9999, 9999, 1);
        x.hours(1);
        due("gone", x.count(5), 22 + 38);
        due("sea", x.count(4), 20);
        due("nothing is back", x.count(6), 0);
        levels(x, 0, 0, 0, 0, 0, 9);
        x.set(0, 2, 700);
        x.hours(1);
        due("above the sill", x.count(5), 60);
        due("lesser by one", x.out(0, 16, 9999, 1), 0);
        due("one goes back", x.house(0, 1), 9);
        due("foul doesn't", x.house(0, 0), 7);
        x.out(0, 9999, 9999, 1);
        x.hours(1);
        due("comes back", x.count(6), 14);
        due("not gone", x.count(5), 60);
        due("rain doesn't", x.count(4), 20 + 16);
        // A law that shuts gates by night, and the drain that fills behind them.
        x.begin();
        x.out(0, 10, 5, 1);
        x.set(0, 2, 7700);
        law(x, 2, 0, "o<2");
        x.hours(1);
        due("open at 1", x.count(5), 5);
        x.hours(1);
        due("shut at 2", x.count(5), 5);
        due("tank", x.house(0, 0), 10);
        due("hold", x.of(0, 9), 50);
        due("cellars", x.of(0, 11), 77 * 2 - 5 - 10 - 50);
    }

    private static void cellars() {
        promise = "31, cellars; 28";
        LowFall x = new LowFall();
        x.set(0, 2, 4000);
        x.rain(40);
        due("lasts, empty", x.lasts(0, 7), 8);
        due("lasts, exactly", x.lasts(0, 50), 1);
        due("lasts, many", x.lasts(0, 49), 2);
        due("lasts, far", x.lasts(0, Integer.MAX_VALUE), 1);
        due("lasts, none", x.lasts(0, 0), LowFall.ZERO);
        due("lasts below", x.lasts(0, -1), LowFall.NONE);
        due("lasts cell", x.lasts(100, 1), LowFall.NONE);
        due("a refusal of the host's", x.count(18), 1);
        x.hours(1);
        due("rain comes up first", x.of(0, 12), 30);
        due("rain", x.of(0, 10), 10);
        due("no foul came up", x.of(0, 11), 0);
        due("lasts when full", x.lasts(0, 0), 0);
        due("lasts when full", x.lasts(0, -5), LowFall.NONE);
        x.hours(1);
        due("foul comes up after the rain", x.of(0, 11), 30);
        due("rain", x.of(0, 12), 80);
        due("foul in the drain", x.of(0, 9), 50);
        x.set(0, 2, 0);
        x.rain(0);
        x.old(0, 1, 90, 1); // hold 90: 40 more, 5 an hour come back, and 20 go on
        x.hours(1);
        due("let on", x.of(1, 9), 20);
        due("foul comes back first", x.of(0, 11), 25);
        due("drain", x.of(0, 9), 35);
        x.hours(1);
        x.old(0, -1, 90, 1);
        x.hours(4);
        due("foul of the cellars is spent", x.of(0, 11), 0);
        due("drain", x.of(0, 9), 40);
        x.hours(1);
        due("rain comes back", x.of(0, 12), 75);
        due("drain", x.of(0, 10), 5);
        x.old(0, -1, 90, 0); // hold 50
        x.hours(1);
        due("as much as is missing, 5", x.of(0, 12), 70);
        x.hours(1);
        due("nothing is missing", x.of(0, 12), 70);
        x.lift(0, 99, 2, 1);
        x.hours(1);
        due("2 are missing", x.of(0, 12), 68);
    }

    private static void pumps() {
        promise = "31, pumps";
        LowFall x = new LowFall();
        x.set(11, 2, 9999);
        x.set(33, 2, 149);
        x.set(88, 2, 49);
        x.set(12, 5, 1);
        x.set(55, 5, 1);
        x.set(31, 5, 1);
        x.set(13, 5, 1);
        x.hours(23);
        due("before the day", x.count(14), 0);
        x.hours(1);
        due("11 drinks at 12, beside foul cellars", x.of(12, 16), 199);
        due("33 drinks at 13, 2 steps off as 31 is", x.of(13, 16), 0);
        due("31 is not taken", x.of(31, 16), 0);
        x.set(13, 5, 0);
        x.set(31, 5, 0);
        x.set(12, 5, 0);
        x.set(22, 5, 1);
        x.hours(24);
        due("not beside", x.of(22, 16), 0);
        x.set(21, 5, 1);
        x.set(22, 5, 0);
        x.hours(24);
        due("beside", x.of(21, 16), 199 + 2);
        x.set(11, 5, 1);
        x.set(21, 5, 0);
        x.hours(24);
        due("in its own cell", x.of(11, 16), 199 + 2);
        due("ill in all", x.count(14), 199 + 2 * 201);
        x.set(11, 5, 0);
        x.set(55, 5, 0);
        x.hours(24);
        due("no pump", x.count(14), 199 + 2 * 201);
        // One ton in cellars is enough.
        x.begin();
        x.set(0, 2, 5100);
        x.set(0, 5, 1);
        x.hours(1);
        due("one ton", x.of(0, 11), 1);
        x.set(0, 2, 99);
        x.hours(23);
        due("ill", x.of(0, 16), 1);
    }

    private static void hoursAndBridge() {
        promise = "31";
        LowFall x = new LowFall();
        due("hours(0)", x.hours(0), LowFall.NONE);
        due("hours(241)", x.hours(241), LowFall.NONE);
        due("hours(-5)", x.hours(-5), LowFall.NONE);
        for (int i = 1; i <= 416; i++) due("hours", x.hours(240), 240 * i);
        due("hours beyond", x.hours(160), LowFall.FULL);
        due("hours to the end", x.hours(159), 99999);
        due("hours beyond", x.hours(1), LowFall.FULL);
        due("hours(0)", x.hours(0), LowFall.NONE);
        due("hour", x.count(0), 99999);

        promise = "32, 33";
        x.begin();
        due("bridge", x.bridge(100), LowFall.NONE);
        due("bridge", x.bridge(-1), LowFall.NONE);
        due("bridge", x.bridge(99), 0);
        due("bridge", x.bridge(0), 99);
        x.set(99, 2, 1);
        x.set(5, 2, 1);
        due("cutOff", x.cutOff(), 0);
        x.set(98, 4, 1);
        x.set(89, 4, 1);
        due("cutOff by rivers", x.cutOff(), 1);
        x.set(99, 4, 1);
        due("a river is not counted", x.cutOff(), 0);
        x.set(0, 4, 1);
        due("the bridge in a river", x.cutOff(), 1);
        x.set(0, 4, 0);
        x.route(4, 5, 90, 1);
        x.take(1, 0);
        x.gangs(0, 1);
        due("its own cell is shut", x.cutOff(), 1);
        x.gangs(0, 0);
        due("not without gangs", x.cutOff(), 0);
        x.set(1, 4, 1);
        x.route(20, 10, 90, 1);
        x.take(1, 0);
        due("cutOff", x.cutOff(), 0);
        x.gangs(1, 1);
        due("the way is shut", x.cutOff(), 1);
        x.set(0, 2, 1);
        due("the bridge itself is reached", x.cutOff(), 1);
        x.bridge(5);
        due("from elsewhere", x.cutOff(), 1);
    }

    private static void laws() {
        promise = "34 to 36";
        LowFall x = new LowFall();
        write(x, 0, "h>5");
        due("law kind", x.law(-1, 0, 0), LowFall.NONE);
        due("law kind", x.law(3, 0, 0), LowFall.NONE);
        due("law day", x.law(0, -1, 0), LowFall.NONE);
        due("law day", x.law(0, 5000, 0), LowFall.NONE);
        due("law tape", x.law(0, 0, 6), LowFall.NONE);
        due("law tape", x.law(0, 0, -1), LowFall.NONE);
        due("law of nothing", x.law(0, 0, 1), LowFall.NOTHING);
        x.tape(1, 3, 3);
        due("law of ints", x.law(0, 0, 1), LowFall.CAST);
        x.keep(1);
        due("law of an image", x.law(0, 0, 1), LowFall.CAST);
        x.hours(72);
        due("a day ahead of today", x.law(0, 2, 3), LowFall.LATER);
        due("law for today", x.law(0, 3, 0), 0);
        due("law to come", x.law(0, 4999, 0), 1);
        due("law between", x.law(0, 10, 0), 2);
        due("law of the same day", x.law(0, 10, 0), 3);
        due("law of another kind", x.law(1, 10, 0), 4);
        due("law for today, told late", x.law(0, 3, 0), 5);
        due("inForce", x.inForce(0, 2), -9);
        due("inForce", x.inForce(0, 3), 5);
        due("inForce", x.inForce(0, 9), 5);
        due("inForce", x.inForce(0, 10), 3);
        due("inForce", x.inForce(0, 4998), 3);
        due("inForce", x.inForce(0, 4999), 1);
        due("inForce", x.inForce(1, 9), -9);
        due("inForce", x.inForce(1, 10), 4);
        due("inForce", x.inForce(2, 4999), -9);
        due("inForce day", x.inForce(0, 5000), LowFall.NONE);
        due("inForce day", x.inForce(0, -1), LowFall.NONE);
        due("inForce kind", x.inForce(3, 0), LowFall.NONE);
        due("holds kind", x.holds(3, 0), LowFall.NONE);
        due("holds kind", x.holds(-1, 0), LowFall.NONE);
        due("holds cell", x.holds(0, 100), LowFall.NONE);
        due("holds OWE without a law", x.holds(1, 0), 0);
        due("holds OPEN without a law", x.holds(2, 0), 1);
        for (int k = 6; k < 20; k++) due("law", x.law(2, 100, 0), k);
        due("a twenty-first", x.law(2, 100, 0), LowFall.FULL);
        write(x, 0, "h>");
        due("a fault is named first", x.law(2, 100, 0), -102);
        due("laws", x.count(16), 20);
        x.begin();
        String sixty = "h+1+2+3+4+5+6+7+8+9+1+2+3+4+5+6+7+8+9+1+2+3+4+5+6+7+8+9=1000";
        due("length", sixty.length(), 60);
        due("60 bytes", law(x, 0, 0, sixty), 0);
        due("61 bytes", law(x, 0, 0, "!" + sixty), LowFall.FULL);
        due("61 bytes and a fault", law(x, 0, 0, sixty + "+"), -161);
        due("the law is no tape", x.holds(0, 0), 0);
    }

    private static void fault(LowFall x, String text, int place) {
        due("law '" + text + "'", law(x, 0, 4000, text), place < 0 ? x.count(16) - 1 : -100 - place);
    }

    private static void lawFaults() {
        promise = "34, the first fault";
        LowFall x = new LowFall();
        fault(x, "", 0);
        fault(x, "h", 1);
        fault(x, "h>", 2);
        fault(x, "h>5", -1);
        fault(x, "x>5", 0);
        fault(x, "H>5", 0);
        fault(x, "h>5&", 4);
        fault(x, "h>5|", 4);
        fault(x, "h>5&&", 4);
        fault(x, "h>5=", 3);
        fault(x, "h>5h", 3);
        fault(x, "h>12345", 6);
        fault(x, "h>1234", -1);
        fault(x, "h>5 ", 3);
        fault(x, " h>5", 0);
        fault(x, "-5<h", 0);
        fault(x, "h+>5", 2);
        fault(x, "(h>5", 4);
        fault(x, "(h>5)", -1);
        fault(x, "(h>5))", 5);
        fault(x, "(h)>5", 2);
        fault(x, "()", 1);
        fault(x, "!", 1);
        fault(x, "!!!!!h>5", -1);
        fault(x, "!!!!!!h>5", 5);
        fault(x, "(((((h>5)))))", -1);
        fault(x, "((((((h>5))))))", 5);
        fault(x, "(!(!(h>5)))", -1);
        fault(x, "(!(!(!h>5)))", 5);
        fault(x, "!!!!!(h>5)", 5);
        fault(x, "(((((h>5)))))&!!!!!h>5|(((((h<5)))))", -1);
        fault(x, "!h>5!h>5", 4);
        fault(x, "h>5(h>5)", 3);
        x.tape(5, 1, 4);
        x.put(5, 0, 'h');
        x.put(5, 1, '>' - 256); // as a byte the same sign
        x.put(5, 2, '5');
        x.put(5, 3, -75);
        due("a byte below 0", x.law(0, 4000, 5), -103);
    }

    private static void says(LowFall x, int cell, String text, boolean answer) {
        x.keep(4);
        due("law " + text, law(x, 1, x.count(0) / 24, text), x.count(16) - 1);
        due("'" + text + "' at " + cell, x.holds(1, cell), answer ? 1 : 0);
        if (x.count(16) < 20) return;
        // Laws are not in an image: a city as full of them as it gets is begun anew.
        int[] levels = new int[24];
        for (int h = 0; h < 24; h++) levels[h] = x.level(h);
        x.begin();
        levels(x, levels);
        x.back(4);
    }

    private static void lawFacts() {
        promise = "36";
        LowFall x = new LowFall();
        levels(x, 1, 2, 3, 4, 5, 6, 7, 8, 9, 10, 11, 12, 13, 14, 15, 16, 17, 18, 19, 20, 21, 22, 23, -24);
        x.set(7, 0, 90);
        x.set(7, 1, 2);
        x.set(7, 2, 8000);
        x.set(7, 3, 33);
        x.map(7, 8, 1);
        x.map(7, 8, 2);
        x.map(8, 7, 2);
        says(x, 7, "h=90&s=2&p=8000&t=33", true);
        says(x, 6, "h=100&s=0&p=0&t=50", true);
        says(x, 7, "m=2&d=0&u=0&k=0&o=0&f=0&c=0&w=1", true);
        says(x, 8, "m=1", true);
        says(x, 6, "m=0", true);
        x.rain(3);
        x.hours(1);
        x.hours(22);
        says(x, 7, "k=0&o=23&w=0-24", true);
        x.set(7, 0, 120);
        x.hours(2);
        says(x, 7, "k=1&o=1&w=2", true);
        says(x, 7, "f=" + x.of(7, 9) + "&c=" + (x.of(7, 11) + x.of(7, 12)) + "&c>1900", true);
        x.route(6, 8, 95, 1); // 94 at cell 7: a depth of 26
        x.take(1, 0);
        says(x, 7, "d=26&u=0", true);
        x.route(17, 7, 110, 1); // 109 there: 11
        x.take(1, 0);
        says(x, 7, "d=26", true);
        x.set(7, 0, 60);
        says(x, 7, "d=0-34", true);
        says(x, 50, "d=0", true);
        x.set(7, 0, 120);
        x.gangs(0, 1); // 8 is shut
        says(x, 7, "u=1", true);
        says(x, 8, "u=0", true);
        says(x, 18, "u=1", true);
        x.gangs(1, 1); // 7 is shut
        says(x, 8, "u=1", true);
        says(x, 17, "u=1", true);
        x.route(27, 17, 110, 1);
        x.take(1, 0);
        x.take(1, 0);
        x.gangs(2, 1);
        x.gangs(3, 1);
        says(x, 7, "u=2", true);

        promise = "36, reckoning";
        x = new LowFall();
        says(x, 7, "2+3*4=20", true);
        says(x, 7, "2-3-4=0-5", true);
        says(x, 7, "2*3-4=2", true);
        says(x, 7, "1=1|1=2&1=3", true);
        says(x, 7, "(1=1|1=2)&1=3", false);
        says(x, 7, "1=2&1=3|1=1", true);
        says(x, 7, "!1=2&1=3", false);
        says(x, 7, "!(1=2&1=3)", true);
        says(x, 7, "!!1=1", true);
        says(x, 7, "1<2", true);
        says(x, 7, "2<2", false);
        says(x, 7, "2>2", false);
        says(x, 7, "3>2", true);
        says(x, 7, "0007=7", true);
        says(x, 7, "9999*9999=1000*1000", true);
        says(x, 7, "9999*9999-1=1000*1000-1", true);
        says(x, 7, "0-9999*9999=0-1000*1000", true);
        says(x, 7, "0-9999*9999-9999+1=0-1000*1000+1", true);
        says(x, 7, "1000*1000+1>1000*1000", false);
        says(x, 7, "1000*1000-1<1000*1000", true);
        // A unit alone is as it is, were it more than a sum may be.
        x = new LowFall();
        x.set(0, 2, 9999);
        x.rain(200);
        for (int i = 0; i < 18; i++) x.hours(240);
        due("in cellars", x.of(0, 11) + x.of(0, 12), (99 + 200) * 4320 - 50);
        says(x, 0, "c>1000*1000", true);
        says(x, 0, "c+0>1000*1000", false);
        says(x, 0, "c+0=1000*1000", true);
        says(x, 0, "c*0=0", true);
        says(x, 0, "c-9999=1000*1000", true);
    }

    private static void lawsAtWork() {
        promise = "31, laws";
        LowFall x = new LowFall();
        // No digging where people live; there the builder owes.
        x.route(0, 2, 80, 1); // digs 40, 42, 44
        x.take(1, 0);
        x.gangs(0, 3);
        x.kiln(1000);
        x.set(2, 2, 10);
        law(x, 0, 0, "p=0|k>2");
        days(x, 2);
        due("not dug", x.lineOf(0, 2, 3), 0);
        due("idle", x.count(10), 6);
        days(x, 1);
        due("dug", x.lineOf(0, 2, 3), 120);
        due("idle", x.count(10), 6);
    }

    // 500 at cell 0 and 300 at 5 whose drains lead to the rivers 20 and 25; 40 live in the river.
    private static LowFall fouledCity() {
        LowFall x = new LowFall();
        x.set(0, 2, 500);
        x.set(5, 2, 300);
        x.set(20, 2, 40);
        x.set(20, 4, 1);
        x.set(25, 4, 1);
        x.old(0, 10, 90, 1);
        x.old(10, 20, 90, 0);
        x.old(5, 15, 90, 1);
        x.old(15, 25, 90, 1);
        x.old(20, 30, 90, 1);
        return x;
    }

    private static void choice(LowFall x, int sum, int bits, int fouled, int cost) {
        due("best(" + sum + ", 0)", x.best(sum, 0), bits);
        due("best(" + sum + ", 1)", x.best(sum, 1), fouled);
        due("best(" + sum + ", 2)", x.best(sum, 2), cost);
    }

    private static void choices() {
        promise = "37";
        LowFall x = fouledCity();
        choice(x, 0, 0, 800, 0);
        x.route(0, 1, 98, 1); // digs 4 and 6
        x.take(1, 0);
        x.route(5, 6, 98, 1);
        x.take(2, 0);
        x.route(0, 1, 98, 1);
        x.take(1, 1);
        choice(x, 29, 0, 800, 0);
        choice(x, 30, 1, 300, 30);
        choice(x, 79, 1, 300, 30);
        choice(x, 80, 3, 0, 80);
        choice(x, 9999999, 3, 0, 80);
        due("best sum", x.best(-1, 0), LowFall.NONE);
        due("best sum", x.best(10000000, 0), LowFall.NONE);
        due("best what", x.best(80, 3), LowFall.NONE);
        due("best what", x.best(80, -1), LowFall.NONE);
        x.route(0, 1, 99, 1); // digs 2 and 4: the same for less
        x.take(1, 1);
        choice(x, 9999999, 8 + 2, 0, 76);
        x.lift(1, 20, 1, 0);
        choice(x, 9999999, 2, 500, 50);
        x.stop(1, true);
        choice(x, 9999999, 2, 500, 50);
        x.out(10, 9, 9, 0);
        choice(x, 9999999, 2, 0, 50);
        x.old(5, 6, 90, 1);
        x.old(6, 5, 90, 1);
        choice(x, 9999999, 0, 0, 0);
        x.lift(5, 25, 1, 0);
        choice(x, 9999999, 0, 300, 0);
        x.set(5, 2, 1);
        choice(x, 9999999, 0, 1, 0);

        promise = "37, lines over the same cell";
        x = fouledCity();
        x.route(0, 1, 98, 1); // to where nothing goes on: 30
        x.take(1, 0);
        x.route(0, 20, 98, 1); // to the river: 4 and 6 and 8 and 30
        x.take(1, 0);
        choice(x, 9999999, 1, 300, 30);
        x.tape(0, 5, 2);
        x.put(0, 0, 1);
        x.put(0, 1, 1);
        due("the first is what counts", x.judge(0, 9999999), 300);
        x.put(0, 0, 0);
        due("the second leads to the river", x.judge(0, 9999999), 800);
        // Cell 1 is the end of line 0: there its own down counts, though line 2 begins there.
        x.old(1, 11, 90, 1);
        x.old(11, 10, 90, 1);
        x.route(1, 2, 98, 1);
        x.take(1, 0);
        choice(x, 9999999, 0, 800, 0);

        promise = "38";
        x = fouledCity();
        due("judge tape", x.judge(6, 1), LowFall.NONE);
        due("judge sum", x.judge(0, -1), LowFall.NONE);
        due("judge sum", x.judge(0, 10000000), LowFall.NONE);
        due("judge nothing", x.judge(0, 1), LowFall.NOTHING);
        x.tape(0, 4, 3);
        due("judge longs", x.judge(0, 1), LowFall.CAST);
        x.keep(0);
        due("judge an image", x.judge(0, 1), LowFall.CAST);
        x.tape(0, 5, 0);
        due("judge no lines", x.judge(0, 0), 800);
        x.route(0, 1, 98, 1);
        x.take(1, 0);
        due("judge none", x.judge(0, 0), LowFall.PLACE);
        x.take(1, 0);
        x.route(5, 6, 98, 1);
        x.take(2, 0);
        x.tape(0, 5, 3);
        x.put(0, 1, 1);
        due("judge", x.judge(0, 29), -101);
        due("judge", x.judge(0, 30), 300);
        x.put(0, 2, 1);
        due("judge", x.judge(0, 79), -102);
        due("judge", x.judge(0, 80), 0);
        x.put(0, 0, 1);
        due("judge", x.judge(0, 30), -101);
        x.tape(0, 5, 2);
        x.put(0, 1, 1);
        due("judge what it has first", x.judge(0, 29), -101);
        due("judge too few", x.judge(0, 30), LowFall.PLACE);
        x.tape(0, 5, 9);
        x.put(0, 8, 1);
        due("judge more than there are lines", x.judge(0, 0), 800);
        due("refusals", x.count(18), 5);
    }

    private static void shares() {
        promise = "39";
        LowFall x = new LowFall();
        due("nobody", x.share(5, 0), LowFall.ZERO);
        due("share vestry", x.share(5, 10), LowFall.NONE);
        due("share vestry", x.share(5, -1), LowFall.NONE);
        due("share sum", x.share(-1, 0), LowFall.NONE);
        due("share sum", x.share(10000000, 0), LowFall.NONE);
        due("refusals", x.count(18), 1);
        x.set(95, 2, 9999);
        x.set(95, 4, 1);
        due("share", x.share(9999999, 9), 9999999);
        due("share", x.share(9999999, 8), 0);
        x.set(95, 2, 1);
        due("one lives there", x.share(7, 9), 7);
        x.set(15, 2, 1);
        x.set(57, 2, 1);
        due("of like ones the least", x.share(100, 1), 34);
        due("share", x.share(100, 5), 33);
        due("share", x.share(100, 9), 33);
        due("two are left", x.share(101, 5), 34);
        due("share", x.share(101, 9), 33);
        due("none where nobody is", x.share(101, 0), 0);
        x.set(58, 2, 1);
        x.set(99, 2, 3); // 1, 2 and 4 of 7
        due("the greatest remainder", x.share(10, 1), 1); // 1 3/7
        due("the greatest remainder", x.share(10, 5), 3); // 2 6/7
        due("the greatest remainder", x.share(10, 9), 6); // 5 5/7
        due("nothing", x.share(0, 9), 0);
        x.set(99, 2, 0); // 1, 2 and 1 of 4
        due("by a remainder of one more", x.share(5, 5), 3); // 2 2/4
        due("by a remainder of one less", x.share(5, 1), 1); // 1 1/4
        for (int c = 0; c < 100; c++) x.set(c, 2, 9999);
        due("share", x.share(9999999, 8), 1000000);
        due("share", x.share(9999999, 9), 999999);
    }

    private static void rows() {
        promise = "40, 44 to 46";
        LowFall x = new LowFall();
        due("tape", x.tape(-1, 1, 1), LowFall.NONE);
        due("tape", x.tape(6, 1, 1), LowFall.NONE);
        due("tape sort", x.tape(0, 0, 1), LowFall.NONE);
        due("tape sort", x.tape(0, 6, -1), LowFall.NONE);
        due("tape long", x.tape(0, 1, 101), LowFall.NONE);
        due("tape size", x.tape(0, 1, -1), LowFall.SIZE);
        due("put nothing", x.put(0, 0, 1), LowFall.NOTHING);
        due("put tape", x.put(6, 0, 1), LowFall.NONE);
        atThrows(x, 0, 0, ISE);
        atThrows(x, -1, 0, IAE);
        atThrows(x, 6, 0, IAE);
        long v = 0x123456789ABCDEF5L;
        long[] narrowed = {(byte) 0xF5, (short) 0xDEF5, (int) 0x9ABCDEF5L, v, 1};
        for (int sort = 1; sort <= 5; sort++) {
            due("tape", x.tape(0, sort, 100), 100);
            due("put", x.put(0, 99, v), 1);
            due("at of sort " + sort, x.at(0, 99), narrowed[sort - 1]);
            due("at", x.at(0, 98), 0);
            due("put", x.put(0, 0, 256), 1);
            due("at of sort " + sort, x.at(0, 0), sort == 1 ? 0 : sort == 5 ? 1 : 256);
            due("put", x.put(0, 0, 0), 1);
            due("at", x.at(0, 0), 0);
            due("put before", x.put(0, -1, 1), LowFall.PLACE);
            due("put beyond", x.put(0, 100, 1), LowFall.PLACE);
            atThrows(x, 0, 100, ISE);
            atThrows(x, 0, -1, ISE);
            due("tape again", x.tape(0, sort, 100), 100);
            due("all 0", x.at(0, 99), 0);
            due("clear", x.clear(0), sort);
            due("clear again", x.clear(0), 0);
        }
        due("tape of none", x.tape(5, 2, 0), 0);
        due("put into none", x.put(5, 0, 0), LowFall.PLACE);
        due("clear", x.clear(6), LowFall.NONE);
        due("clear", x.clear(-1), LowFall.NONE);
        x.keep(1);
        due("put to an image", x.put(1, 0, 1), LowFall.CAST);
        atThrows(x, 1, 0, ISE);
        due("clear an image", x.clear(1), 6);
        due("it is nothing now", x.put(1, 0, 1), LowFall.NOTHING);
        due("refusals", x.count(18), 1 + 1 + 10 + 1 + 1 + 1);
        x.tape(1, 3, 2);
        due("a row too long leaves what is held", x.tape(1, 1, 101), LowFall.NONE);
        due("so does a size below 0", x.tape(1, 1, -9), LowFall.SIZE);
        due("clear", x.clear(1), 3);
    }

    private static void images() {
        promise = "41 to 43";
        LowFall x = new LowFall();
        due("keep tape", x.keep(6), LowFall.NONE);
        due("back tape", x.back(-1), LowFall.NONE);
        due("toss tape", x.toss(6), LowFall.NONE);
        due("back nothing", x.back(0), LowFall.NOTHING);
        due("toss nothing", x.toss(0), LowFall.NOTHING);
        x.tape(0, 5, 1);
        due("back a row", x.back(0), LowFall.CAST);
        due("toss a row", x.toss(0), LowFall.CAST);
        x.set(1, 2, 9999);
        x.set(3, 2, 9999);
        x.old(1, 2, 55, 1);
        x.map(1, 2, 55);
        x.route(50, 51, 99, 1);
        x.take(2, 0);
        x.gangs(0, 2);
        x.kiln(300);
        x.bridge(9);
        x.rain(3);
        x.lift(20, 21, 7, 8);
        x.out(30, 9, 9, 0);
        due("keep", x.keep(1), 0);
        due("toss without foul cellars", x.toss(1), LowFall.THROWN);
        due("refusals", x.count(18), 5);
        x.hours(49);
        due("keep", x.keep(0), 49);
        int[] counts = new int[19];
        for (int what = 0; what <= 17; what++) counts[what] = x.count(what);
        due("tank", x.house(30, 1), 9);
        // The city goes another way, and all but laws, tide and route comes back.
        levels(x, 3, 4);
        law(x, 0, 3, "h=1");
        x.route(60, 62, 90, 1);
        x.take(1, 1);
        x.set(1, 2, 5);
        x.set(1, 0, 5);
        x.old(1, 0, 7, 2);
        x.map(1, 0, 5);
        x.gangs(0, 4);
        x.kiln(1);
        x.bridge(2);
        x.rain(9);
        x.stop(20, true);
        x.coal(20, 50);
        x.out(30, 20, 9, 5);
        x.bad(0, 1, true);
        x.hours(100);
        due("back", x.back(0), 49);
        for (int what = 0; what <= 17; what++) if (what != 16) due("count(" + what + ")", x.count(what), counts[what]);
        due("laws stay", x.count(16), 1);
        due("the tide stays", x.level(1), 4);
        due("the route stays", x.way(2), 62);
        due("people", x.of(1, 2), 9999);
        due("height", x.of(1, 0), 100);
        due("down", x.of(1, 6), 2);
        due("map", x.mapOf(1, 1, 99), 55);
        due("bad", x.lineOf(0, 1, 6), 0);
        due("laid", x.lineOf(0, 1, 4), 2);
        due("dug", x.lineOf(0, 0, 3), 0);
        due("tank", x.house(30, 1), 9);
        due("coal", x.house(20, 2), 0);
        due("stopped", x.house(20, 3), 0);
        due("gangs", x.gangs(0, 2), 2);
        due("kiln", x.kiln(300), 300);
        due("bridge", x.bridge(9), 9);
        due("rain", x.rain(3), 3);
        due("toss: cells 1, 3, and 2 to which 1 leads", x.toss(0), 3);
        x.hours(1);
        due("the image is none of the city", x.back(0), 49);
        due("the first image", x.back(1), 0);
        due("its hour", x.count(0), 0);
        due("refusals are no image's", x.count(18), 5);
        x.begin();
        due("images outlast a beginning", x.back(0), 49);
        due("counts come back", x.count(1), counts[1]);
    }

    // A city with a line and a map of its own, in which a wall cracked for which the builder owes.
    private static void otherCity(LowFall x, int at, int width, int cement) {
        x.begin();
        x.route(at, at + 2, 40 + width, 1);
        x.take(width, cement);
        x.gangs(0, 4);
        x.kiln(9999);
        x.set(at + 2, 2, 10 * width);
        x.set(at + 2, 3, 0);
        law(x, 1, 0, "1=1");
        x.hours(24);
        x.map(at, at + 1, width);
        days(x, 1 + width);
    }

    private static void lookAtOther(LowFall x, int at, int width, int cement) {
        due("hour", x.count(0), 24 * (2 + width));
        due("cell", x.lineOf(0, 1, 0), at + 1);
        due("invert", x.lineOf(0, 1, 1), 39 + width);
        due("told", x.mapOf(at, 1, 1), width);
        due("not told", x.mapOf(at, 1, 0), -9);
        due("nor of the other", x.mapOf(70 - at, 1, 4999), -9);
        due("owed by the builder", x.count(11), 10 * width * ((62 - width) / 2));
        int laid = x.lineOf(0, 2, 4);
        due("bears by its cement", x.bears(0, 2), laid + (cement == 0 ? (63 - width) / 2 : (62 - width - 10 + 5) / 6));
        due("bricks by its width", x.best(9999999, 2) + x.count(15), 1);
        x.gangs(0, 0);
        x.tape(0, 5, 1);
        x.put(0, 0, 1);
        int dig = 0;
        for (int i = 0; i < 3; i++) dig += x.lineOf(0, i, 2);
        due("cost by its width", x.judge(0, dig + 30 * width - 1), -100);
        due("cost by its width", x.judge(0, dig + 30 * width), 0);
        x.gangs(0, 4);
    }

    private static void imagesOfTwoCities() {
        promise = "41, 42, two cities";
        LowFall x = new LowFall();
        otherCity(x, 50, 1, 0);
        x.keep(1);
        otherCity(x, 20, 3, 1);
        x.keep(2);
        lookAtOther(x, 20, 3, 1);
        x.back(1);
        lookAtOther(x, 50, 1, 0);
        x.back(2);
        lookAtOther(x, 20, 3, 1);
        due("owed by the builder", x.count(11) > 0 ? 1 : 0, 1);
        x.begin();
        due("begun, nobody owes", x.count(11) + x.count(12), 0);
        x.back(1);
        lookAtOther(x, 50, 1, 0);
    }

    private static void copies() {
        promise = "47";
        LowFall x = new LowFall();
        due("copy tape", x.copy(-1, 0, 0, 0, 0), LowFall.NONE);
        due("copy tape", x.copy(0, 0, 6, 0, 0), LowFall.NONE);
        due("copy nothing", x.copy(0, 0, 1, 0, 0), LowFall.NOTHING);
        x.tape(0, 3, 5);
        due("copy to nothing", x.copy(0, 0, 1, 0, 0), LowFall.NOTHING);
        due("copy from nothing", x.copy(1, 0, 0, 0, 0), LowFall.NOTHING);
        x.tape(1, 4, 5);
        due("copy to another sort", x.copy(0, 0, 1, 0, 0), LowFall.CAST);
        x.keep(1);
        due("copy to an image", x.copy(0, 0, 1, 0, 0), LowFall.CAST);
        due("copy from an image", x.copy(1, 0, 0, 0, 0), LowFall.CAST);
        due("copy an image to itself", x.copy(1, 0, 1, 0, 0), LowFall.CAST);
        x.tape(1, 3, 4);
        for (int i = 0; i < 5; i++) x.put(0, i, 10 + i);
        due("copy", x.copy(0, 2, 1, 1, 3), 3);
        for (int i = 0; i < 4; i++) due("at", x.at(1, i), i == 0 ? 0 : 11 + i);
        due("copy none at the end", x.copy(0, 5, 1, 4, 0), 0);
        due("copy none beyond", x.copy(0, 6, 1, 4, 0), LowFall.PLACE);
        due("copy too many", x.copy(0, 2, 1, 1, 4), LowFall.PLACE);
        due("copy too many from", x.copy(0, 3, 1, 0, 3), LowFall.PLACE);
        due("copy too many to", x.copy(0, 0, 1, 2, 3), LowFall.PLACE);
        due("copy n", x.copy(0, 0, 1, 0, -1), LowFall.PLACE);
        due("copy i", x.copy(0, -1, 1, 0, 1), LowFall.PLACE);
        due("copy j", x.copy(0, 0, 1, -1, 1), LowFall.PLACE);
        due("copy far", x.copy(0, Integer.MAX_VALUE, 1, 0, Integer.MAX_VALUE), LowFall.PLACE);
        due("copy far", x.copy(0, 1, 1, 1, Integer.MAX_VALUE), LowFall.PLACE);
        due("copy far", x.copy(0, 0, 1, Integer.MAX_VALUE, 2), LowFall.PLACE);
        due("nothing changed", x.at(1, 0), 0);
        due("copy up in itself", x.copy(0, 0, 0, 1, 4), 4);
        int[] up = {10, 10, 11, 12, 13};
        for (int i = 0; i < 5; i++) due("at", x.at(0, i), up[i]);
        due("copy down in itself", x.copy(0, 2, 0, 0, 3), 3);
        int[] down = {11, 12, 13, 12, 13};
        for (int i = 0; i < 5; i++) due("at", x.at(0, i), down[i]);
    }

    private static void counts() {
        promise = "48";
        LowFall x = new LowFall();
        due("count(-1)", x.count(-1), LowFall.NONE);
        due("count(19)", x.count(19), LowFall.NONE);
        due("count", x.count(Integer.MAX_VALUE), LowFall.NONE);
        x.set(0, 2, 9900);
        x.rain(100);
        x.out(0, 30, 1, -5);
        x.hours(1);
        due("foul made", x.count(1), 99);
        due("rain made", x.count(2), 10000);
        due("foul in drains, cellars and tanks", x.count(7), 99);
        due("rain in them", x.count(8), 10000);
        due("cellars", x.of(0, 11), 19);
        due("tank", x.house(0, 0), 30);
        x.tide(0);
        x.tape(0, 1, -1);
        x.toss(0);
        x.keep(0);
        x.toss(1);
        due("refusals", x.count(18), 4);
        // The wettest run of all: its rain is still an int.
        x.begin();
        x.rain(200);
        for (int i = 0; i < 416; i++) x.hours(240);
        x.hours(159);
        due("rain made", x.count(2), 200 * 100 * 99999);
        due("rain in all", x.count(8), 200 * 100 * 99999);
    }
}
