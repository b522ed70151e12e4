// The edges that the document's Terms name, I to III, a sentence after the other.
public final class GroundTermsTest extends Due {
    private static final int OWE = 1;

    public static void main(String[] args) {
        hours();
        beside();
        cells();
        near();
        tides();
        comingBack();
        oldDrains();
        theMap();
        routes();
        digs();
        bestRoutes();
        lines();
        dayComes();
        inWork();
        dug();
        bricks();
        wet();
        pulls();
        cracks();
        openedAtLast();
        owed();
        strengths();
        carrying();
        shut();
        cutOff();
        end("terms I to III");
    }

    // ---- I

    private static void hours() {
        says("HOURS go on from 0 (99999 at most)");
        LowFall x = new LowFall();
        due(x.count(0), 0);
        for (int i = 0; i < 416; i++) x.hours(240);
        due(x.hours(160), LowFall.FULL);
        due(x.count(0), 99840);
        due(x.hours(159), 99999);
        due(x.hours(1), LowFall.FULL);
        due(x.count(0), 99999);
        says("DAY is HOUR / 24");
        law(x, OWE, "k=4166&o=15");
        due(x.holds(OWE, 0), 1);
        x = new LowFall();
        x.hours(23);
        law(x, OWE, "k=0&o=23|k=1&o=0");
        due(x.holds(OWE, 0), 1);
        x.hours(1);
        due(x.holds(OWE, 0), 1);
        x.hours(1);
        due(x.holds(OWE, 0), 0);
    }

    private static boolean bySides(int c, int d) {
        int across = Math.abs(c % 10 - d % 10), along = Math.abs(c / 10 - d / 10);
        return d >= 0 && d < 100 && across + along == 1;
    }

    private static void beside() {
        says("CELLS 0 .. 99: 10 y + x; BESIDE are those by sides");
        for (int c = 0; c < 100; c++) {
            LowFall x = new LowFall();
            for (int d = -2; d <= 111; d++) {
                due(x.old(c, d, 0, 0), d == -1 || bySides(c, d) ? 0 : LowFall.NONE);
                due(x.map(c, d, 0) > 0 ? 0 : LowFall.NONE, d == -1 || bySides(c, d) ? 0 : LowFall.NONE);
            }
        }
        // What is BESIDE doesn't go round the edges: walls at 9 are none of 10's, nor 0's of 90.
        LowFall x = new LowFall();
        for (int c = 0; c < 100; c++) {
            x.set(c, 2, 1);
            x.set(c, 3, 0);
        }
        x.route(8, 9, 60, 1);
        x.take(1, 0);
        x.gangs(0, 3); // at 9 41 deep: a dig of 82
        x.hours(24);
        due(x.count(13), 3);
        due(x.of(9, 14) + x.of(8, 14) + x.of(19, 14), 3);
        due(x.of(10, 14), 0);
        due(x.of(99, 14), 0);
    }

    private static void cells() {
        String[] words = {"HEIGHT (0 .. 300; 100 at first)", "SOIL (0 .. 3) ... 0 at first else",
            "PEOPLE (0 .. 9999) ... 0 at first else", "TENDER (0 .. 99; 50)", "RIVER (1 or 0) ... 0 at first else",
            "PUMP (1 or 0); 0 at first else"};
        int[] first = {100, 0, 0, 50, 0, 0}, most = {300, 3, 9999, 99, 1, 1};
        for (int what = 0; what < 6; what++) {
            says(words[what]);
            LowFall x = new LowFall();
            for (int c = 0; c < 100; c += 9) due(x.of(c, what), first[what]);
            due(x.set(0, what, -1), LowFall.NONE);
            due(x.set(0, what, most[what] + 1), LowFall.NONE);
            due(x.set(0, what, Integer.MAX_VALUE), LowFall.NONE);
            due(x.set(0, what, Integer.MIN_VALUE), LowFall.NONE);
            due(x.of(0, what), first[what]);
            due(x.set(0, what, most[what]), first[what]);
            due(x.set(0, what, 0), most[what]);
            due(x.of(0, what), 0);
            due(x.of(1, what), first[what]);
        }
    }

    private static void near() {
        says("NEAR of two CELLS: the differences of x and of y, together");
        // From 9 a pump at 10 is 10 off, one at 36 is 6 off, one at 45 is 8 off.
        LowFall x = new LowFall();
        x.set(9, 2, 100);
        for (int pump = 10; pump <= 45; pump += 35) x.set(pump, 5, 1);
        x.set(36, 5, 1);
        x.set(36, 2, 5100); // 51 tons: one comes up
        x.hours(24);
        due(x.of(36, 16), 2 + 102);
        due(x.of(10, 16) + x.of(45, 16), 0);
    }

    // ---- the tide

    private static void tides() {
        says("THE TIDE: a row of 1 .. 60 LEVELS (-128 .. 127)");
        LowFall x = new LowFall();
        x.tape(0, 1, 0);
        due(x.tide(0), LowFall.FULL);
        x.tape(0, 1, 61);
        due(x.tide(0), LowFall.FULL);
        x.tape(0, 1, 60);
        x.put(0, 0, 128);
        x.put(0, 59, 127);
        due(x.tide(0), 60);
        due(x.level(0), -128);
        due(x.level(59), 127);
        due(levels(x, -9), 1);
        due(x.level(0), -9);
        due(x.level(99999), -9);
        says("LEVEL of an HOUR is that at its remainder by the row's length (0 without a row)");
        levels(x, 10, 20, 30);
        due(x.level(2), 30);
        due(x.level(3), 10);
        due(x.level(99999), 10);
        due(x.level(100000), 20);
        levels(x, 10, 20, 30, 40, 50, 60, 70);
        due(x.level(6), 70);
        due(x.level(7), 10);
        due(x.level(100000), 60); // 100000 is 14285 times 7 and 5
        x.begin();
        due(x.level(0), 0);
        due(x.level(100000), 0);
    }

    private static void comingBack() {
        says("EBB of an HOUR: its LEVEL less that of the next ... below 0 together at some one of the first 12");
        long[] row = new long[60];
        row[30] = 1;
        LowFall x = new LowFall();
        levels(x, row);
        due(x.comesBack(17), 0); // the 13th alone
        due(x.comesBack(18), 1); // the 12th
        due(x.comesBack(29), 1); // the first
        due(x.comesBack(30), 0); // falls, and never rises above it
        due(x.comesBack(31), 0);
        // It falls first and rises above where it was: the sum counts, not each ebb; and round the row's end.
        row[30] = 0;
        row[58] = 5;
        row[59] = 2;
        row[2] = 6;
        levels(x, row);
        due(x.comesBack(58), 1);
        due(x.comesBack(58 + 60 * 1665), 1);
        row[2] = 5;
        levels(x, row);
        due(x.comesBack(58), 0); // at 0 together, not below
        due(x.comesBack(59), 1);
        says("EBB of an HOUR: of the last ones too");
        levels(x, 0, 1); // 99999 is odd: 1, then 0
        due(x.comesBack(99999), 0);
        due(x.comesBack(99998), 1);
        levels(x, 1, 0);
        due(x.comesBack(99999), 1);
    }

    // ---- II

    private static void oldDrains() {
        says("a DOWN (-1 none, or a CELL BESIDE it), an INVERT (0 .. 300) and a WIDE (0 .. 9) (at first -1, 0, 0)");
        LowFall x = new LowFall();
        for (int c = 0; c < 100; c += 11) {
            due(x.of(c, 6), -1);
            due(x.of(c, 7), 0);
            due(x.of(c, 8), 0);
        }
        due(x.old(0, 1, 300, 9), 0);
        due(x.old(0, 1, 301, 9), LowFall.NONE);
        due(x.old(0, 1, -1, 9), LowFall.NONE);
        due(x.old(0, 1, 300, 10), LowFall.NONE);
        due(x.old(0, 1, 300, -1), LowFall.NONE);
        due(x.old(0, 0, 300, 9), LowFall.NONE);
        due(x.old(0, -2, 300, 9), LowFall.NONE);
        due(x.of(0, 6), 1);
        due(x.of(0, 7), 300);
        due(x.of(0, 8), 9);
        due(x.old(0, -1, 0, 0), 0);
        due(x.of(0, 6), -1);
        due(x.of(0, 7), 0);
        due(x.of(0, 8), 0);
    }

    private static void theMap() {
        says("THE MAP has tellings (200 at most)");
        LowFall x = new LowFall();
        for (int i = 1; i <= 200; i++) due(x.map(i % 100, -1, i), i);
        due(x.map(0, -1, 1), LowFall.FULL);
        due(x.count(17), 200);
        due(x.mapOf(0, 1, 0), 200);
        says("each KNOWN from a DAY on; as of a DAY the latest one KNOWN then counts");
        x = new LowFall();
        x.hours(24);
        x.map(5, 6, 10);
        x.map(5, 4, 20);
        x.hours(23);
        x.map(5, 15, 30); // the last hour of day 1
        x.hours(1);
        x.map(5, -1, 40); // the first of day 2
        due(x.mapOf(5, 0, 0), -9);
        due(x.mapOf(5, 1, 0), -9);
        due(x.mapOf(5, 0, 1), 15);
        due(x.mapOf(5, 1, 1), 30);
        due(x.mapOf(5, 0, 2), -1);
        due(x.mapOf(5, 1, 2), 40);
        due(x.mapOf(5, 1, 4999), 40);
        due(x.mapOf(4, 1, 4999), -9);
    }

    // ---- III

    private static void routes() {
        says("by sides, each step NEARER to b");
        LowFall x = new LowFall();
        x.route(9, 10, 100, 1); // round the edge they would be neighbours
        for (int i = 0; i < 10; i++) due(x.way(i), 9 - i);
        due(x.way(10), 10);
        due(x.way(11), -9);
        x.route(0, 2, 100, 1);
        x.set(1, 4, 1); // straight on there is a river, and a way about is not nearer
        due(x.route(0, 2, 100, 1), LowFall.UNABLE);
        due(x.route(0, 12, 100, 1), 2 + 4 + 6);
        due(x.way(1), 10);
        due(x.way(2), 11);
        says("the INVERT of its i-th CELL (from 0) is z - f i");
        x.route(99, 0, 300, 9);
        x.take(1, 0);
        for (int i = 0; i < 19; i++) due(x.lineOf(0, i, 1), 300 - 9 * i);
        due(x.size(0), 19);
        says("No CELL of it but b is a RIVER");
        x = new LowFall();
        x.set(5, 4, 1);
        due(x.route(5, 6, 100, 1), LowFall.UNABLE);
        due(x.route(4, 6, 100, 1), LowFall.UNABLE);
        due(x.route(4, 5, 100, 1), 2);
        due(x.route(14, 5, 100, 1), 2 + 4);
        due(x.way(1), 4);
        says("no INVERT is below 0");
        due(x.route(20, 22, 2, 1), 2 * (98 + 99 + 100));
        due(x.route(20, 22, 1, 1), LowFall.UNABLE);
        due(x.route(20, 22, 18, 9), 2 * (82 + 91 + 100));
        due(x.route(20, 22, 17, 9), LowFall.UNABLE);
        due(x.route(90, 9, 18, 1) > 0 ? 1 : 0, 1);
        due(x.route(90, 9, 17, 1), LowFall.UNABLE);
    }

    private static void digs() {
        says("DIG of a CELL: DEPTH times (2 plus SOIL) if DEPTH is above 0, else 9 times (INVERT less HEIGHT)");
        LowFall x = new LowFall();
        due(x.route(0, 1, 101, 1), 9 + 0);
        due(x.route(0, 1, 100, 1), 0 + 2);
        due(x.route(0, 1, 99, 1), 2 + 4);
        x.set(0, 1, 3);
        due(x.route(0, 1, 99, 1), 5 + 4);
        due(x.route(0, 1, 100, 1), 0 + 2);
        due(x.route(0, 1, 101, 1), 9 + 0); // soil is nothing to a dam
        x.set(0, 0, 0);
        x.set(1, 0, 300);
        due(x.route(0, 1, 300, 1), 9 * 300 + 2);
        due(x.route(0, 1, 1, 1), 9 + 2 * 300);
    }

    private static void bestRoutes() {
        says("The BEST one has the least DIG together");
        LowFall x = new LowFall();
        // By 1 a dig of 3 on its soil instead of 2, by 10 a dig of 2: one ton less.
        x.set(1, 1, 1);
        due(x.route(0, 11, 100, 1), 0 + 2 + 4);
        due(x.way(1), 10);
        says("of these the first by its CELLS in order");
        x.set(1, 1, 0);
        due(x.route(0, 11, 100, 1), 0 + 2 + 4);
        due(x.way(1), 1);
        due(x.route(11, 0, 100, 1), 6);
        due(x.way(1), 1);
        due(x.route(1, 10, 100, 1), 6);
        due(x.way(1), 0);
        due(x.route(10, 1, 100, 1), 6);
        due(x.way(1), 0);
        // Alike in all: 12 and 21 are dear by the same, 11 is dearer by both.
        x.set(11, 0, 103);
        x.set(2, 1, 3);
        x.set(20, 1, 3);
        due(x.route(0, 22, 100, 1), 0 + 2 + 4 * 5 / 2 + 6 + 8);
        int[] way = {0, 1, 2, 12, 22};
        for (int i = 0; i < 5; i++) due(x.way(i), way[i]);
    }

    private static void lines() {
        says("LINES 0 .. 7 are ROUTES taken");
        LowFall x = new LowFall();
        x.route(0, 1, 90, 1);
        for (int k = 0; k < 8; k++) due(x.take(1, 0), k);
        due(x.take(1, 0), LowFall.FULL);
        due(x.size(7), 2);
        due(x.size(8), LowFall.NONE);
        due(x.count(15), 8);
        says("with a WIDTH (1 .. 9) and a CEMENT (0 lime, 1 new)");
        x.begin();
        x.route(0, 1, 90, 1);
        due(x.take(0, 0), LowFall.NONE);
        due(x.take(10, 0), LowFall.NONE);
        due(x.take(1, -1), LowFall.NONE);
        due(x.take(1, 2), LowFall.NONE);
        due(x.take(1, 1), 0);
        due(x.take(9, 0), 1);
        says("in work with GANGS (0 .. 4; 0 at first)");
        due(x.gangs(0, 5), LowFall.NONE);
        due(x.gangs(0, -1), LowFall.NONE);
        due(x.gangs(0, 4), 0);
        due(x.gangs(0, 0), 4);
    }

    private static void dayComes() {
        says("A DAY'S WORK (each time HOUR comes to 24 times a DAY; LINES by numbers, GANGS above 0, not all LAID)");
        LowFall x = new LowFall();
        x.route(0, 1, 1, 1); // digs 198 and 200
        x.take(1, 0);
        x.take(1, 0);
        x.take(1, 0);
        x.gangs(0, 1);
        x.gangs(2, 4);
        due(x.lineOf(0, 1, 3), 0);
        x.hours(23);
        due(x.lineOf(0, 1, 3), 0);
        x.hours(1);
        due(x.lineOf(0, 1, 3), 40);
        due(x.lineOf(1, 1, 3), 0);
        due(x.lineOf(2, 1, 3), 160);
        x.hours(23);
        due(x.lineOf(0, 1, 3), 40);
        x.hours(49); // days 2, 3 and 4, and no bricks for line 2 on the last two
        due(x.lineOf(0, 1, 3), 160);
        due(x.lineOf(2, 1, 3), 320);
        due(x.count(10), 8);
        // The lesser number takes the bricks; what is all laid takes none and idles not.
        x.kiln(100);
        x.hours(48);
        due(x.lineOf(0, 1, 3), 200);
        due(x.lineOf(2, 1, 4), 5);
        due(x.lineOf(0, 1, 4), 6);
        x.gangs(1, 0);
        x.kiln(9999);
        days(x, 20);
        due(x.lineOf(0, 0, 4) > 0 && x.lineOf(2, 0, 4) > 0 ? 1 : 0, 1);
        int idle = x.count(10), bricks = x.count(9);
        x.hours(24);
        due(x.count(10), idle);
        due(x.count(9), bricks + 9999);
        due(x.lineOf(1, 1, 3), 0);
        due(x.lineOf(1, 1, 4), -9);
    }

    private static void inWork() {
        says("the CELL IN WORK is the last of its CELLS (from the end) that isn't LAID");
        LowFall x = new LowFall();
        x.route(0, 2, 99, 1); // digs 2, 4, 6
        x.take(1, 0);
        x.gangs(0, 1);
        x.kiln(100);
        int[] dug = {0, 0, 40}, laid = {-9, -9, -9};
        for (int day = 1; day <= 6; day++) {
            due(x.of(2 - (day - 1) / 2, 15), 1);
            x.hours(24);
            int i = 2 - (day - 1) / 2;
            dug[i] = 40;
            if (day % 2 == 0) laid[i] = day;
            for (int k = 0; k < 3; k++) {
                due(x.lineOf(0, k, 3), dug[k]);
                due(x.lineOf(0, k, 4), laid[k]);
            }
        }
        for (int c = 0; c < 3; c++) due(x.of(c, 15), 0);
    }

    private static void dug() {
        says("If DIG (IV) doesn't hold there: GANGS are IDLE");
        LowFall x = new LowFall();
        x.route(0, 1, 81, 1); // digs 38 and 40
        x.take(1, 0);
        x.gangs(0, 3);
        x.kiln(100);
        law(x, 0, "k>1");
        x.hours(24);
        due(x.lineOf(0, 1, 3), 0);
        due(x.count(10), 3);
        due(x.count(9), 100);
        x.hours(24);
        due(x.count(10), 3);
        due(x.lineOf(0, 1, 3), 120);
        law(x, 0, "k=0"); // what is dug isn't laid either
        x.hours(24);
        due(x.lineOf(0, 1, 4), -9);
        due(x.count(10), 6);
        says("Else if less than its DIG is DUG: 40 times GANGS more are");
        x.begin();
        x.route(0, 1, 81, 1);
        x.take(1, 0);
        x.gangs(0, 1);
        x.kiln(100);
        x.hours(24);
        due(x.lineOf(0, 1, 3), 40); // all of its dig: the next day it is laid
        x.hours(24);
        due(x.lineOf(0, 1, 3), 40);
        due(x.lineOf(0, 1, 4), 2);
        x.begin();
        x.set(1, 0, 101); // a dig of 42
        x.route(0, 1, 81, 1);
        x.take(1, 0);
        x.gangs(0, 1);
        x.kiln(100);
        days(x, 2);
        due(x.lineOf(0, 1, 3), 80);
        due(x.lineOf(0, 1, 4), -9);
        x.hours(24);
        due(x.lineOf(0, 1, 4), 3);
        says("a DIG of 0 is DUG at once, and laid on the first day");
        x.begin();
        x.route(0, 1, 101, 1);
        x.take(1, 0);
        x.gangs(0, 1);
        x.kiln(100);
        x.set(1, 2, 1000);
        x.set(1, 3, 0);
        x.hours(24);
        due(x.lineOf(0, 1, 3), 0);
        due(x.lineOf(0, 1, 4), 1);
        due(x.count(13), 0);
    }

    private static void bricks() {
        says("Else if THE KILN has 100 times WIDTH bricks: it is LAID (bricks go) ...; else GANGS are IDLE");
        for (int width = 1; width <= 9; width += 4) {
            LowFall x = new LowFall();
            x.route(0, 1, 101, 1); // digs 9 and 0
            x.take(width, 0);
            x.gangs(0, 2);
            x.kiln(100 * width - 1);
            x.hours(24);
            due(x.lineOf(0, 1, 4), -9);
            due(x.count(10), 2);
            due(x.count(9), 100 * width - 1);
            x.kiln(1);
            x.hours(24);
            due(x.lineOf(0, 1, 4), 2);
            due(x.count(10), 2);
            due(x.count(9), 0);
        }
        says("Ahead of all LINES THE KILN gets MAKE (0 .. 9999) bricks");
        LowFall x = new LowFall();
        due(x.kiln(-1), LowFall.NONE);
        due(x.kiln(10000), LowFall.NONE);
        due(x.kiln(9999), 0);
        x.hours(23);
        due(x.count(9), 0);
        x.hours(1);
        due(x.count(9), 9999); // were there no lines
        x.hours(48);
        due(x.count(9), 3 * 9999);
        due(x.kiln(0), 9999);
        x.hours(24);
        due(x.count(9), 3 * 9999);
    }

    private static void wet() {
        says("WET if its drain has water then");
        for (int how = 0; how < 4; how++) {
            LowFall x = new LowFall();
            x.route(0, 1, 101, 1);
            x.take(1, 0);
            x.gangs(0, 1);
            x.kiln(100);
            x.hours(23);
            if (how == 1) x.set(1, 2, 100); // one ton of foul
            if (how == 2) x.rain(1);
            if (how == 3) x.set(1, 2, 99); // none
            x.hours(1);
            due(x.lineOf(0, 1, 4), 1);
            due(x.lineOf(0, 1, 5), how == 1 || how == 2 ? 1 : 0);
            x.rain(0);
            x.set(1, 2, 5000);
            x.hours(24);
            due(x.lineOf(0, 1, 5), how == 1 || how == 2 ? 1 : 0); // as it was then
        }
    }

    // Cell 44 is opened, 31 deep, in a soil: the pull is 31 times (1 plus that).
    private static LowFall opened(int soil, int people, int tender, int neighbours, int theirTender) {
        LowFall x = new LowFall();
        x.set(44, 1, soil);
        x.set(44, 2, people);
        x.set(44, 3, tender);
        int[] cells = {34, 43, 45, 54};
        for (int c : cells) {
            x.set(c, 2, neighbours);
            x.set(c, 3, theirTender);
        }
        x.route(43, 44, 70, 1);
        x.take(1, 0);
        x.gangs(0, 4);
        x.hours(24);
        return x;
    }

    private static void pulls() {
        says("on it a half of that, on CELLS BESIDE it a fourth of that (cut each)");
        due(opened(0, 7, 14, 0, 0).count(12), 7); // 31: a half is 15
        due(opened(0, 7, 15, 0, 0).count(13), 0);
        due(opened(0, 0, 0, 3, 6).count(12), 4 * 3); // a fourth is 7
        due(opened(0, 0, 0, 3, 7).count(13), 0);
        due(opened(1, 7, 30, 0, 0).count(12), 7); // 62: 31 and 15
        due(opened(1, 7, 31, 0, 0).count(13), 0);
        due(opened(1, 0, 0, 3, 14).count(12), 4 * 3);
        due(opened(1, 0, 0, 3, 15).count(13), 0);
        says("PULL of an OPENED CELL: its DEPTH times (1 plus its SOIL)");
        due(opened(3, 7, 61, 0, 0).count(12), 7); // 124: 62 and 31
        due(opened(3, 7, 62, 0, 0).count(13), 0);
        due(opened(3, 0, 0, 3, 30).count(12), 4 * 3);
        due(opened(3, 0, 0, 3, 31).count(13), 0);
    }

    private static void cracks() {
        says("A CELL whose PEOPLE are above 0, and PULL above TENDER, CRACKS");
        LowFall x = opened(3, 0, 0, 0, 0);
        due(x.count(13), 0);
        x = opened(3, 1, 0, 1, 0);
        due(x.count(13), 5);
        due(x.count(12), 62 + 4 * 31);
        for (int c : new int[] {44, 34, 43, 45, 54}) due(x.of(c, 14), 1);
        for (int c : new int[] {33, 35, 53, 55, 46, 64, 42, 24}) due(x.of(c, 14), 0);
        says("CRACKS (once in all)");
        x.kiln(9999);
        days(x, 1); // laid; then 43 is opened, 30 deep
        due(x.lineOf(0, 1, 4), 2);
        days(x, 1);
        due(x.lineOf(0, 0, 3), 160);
        due(x.count(12), 62 + 4 * 31);
        due(x.count(13), 5);
        x.set(42, 2, 9);
        x.set(42, 3, 6);
        x.take(1, 0);
        x.gangs(1, 4);
        days(x, 3); // 44 again, and 43: 42 cracks at 30 / 4
        due(x.count(12), 62 + 4 * 31 + 9);
        due(x.count(13), 6);
        says("if that makes it DIG or more, it is OPENED: walls are pulled");
        x = new LowFall();
        x.set(1, 2, 1);
        x.set(1, 3, 0);
        x.route(0, 1, 60, 1); // at 1 41 deep: a dig of 82
        x.take(1, 0);
        x.gangs(0, 1);
        days(x, 2);
        due(x.lineOf(0, 1, 3), 80);
        due(x.count(13), 0);
        days(x, 1);
        due(x.count(13), 1);
        due(x.count(12), 20);
    }

    private static void openedAtLast() {
        says("if that makes it DIG or more, it is OPENED (to the ton)");
        for (int height = 99; height <= 101; height++) { // digs 38, 40 and 42
            LowFall x = new LowFall();
            x.set(1, 0, height);
            x.set(1, 2, 1);
            x.set(1, 3, 0);
            x.route(0, 1, 81, 1);
            x.take(1, 0);
            x.gangs(0, 1);
            x.hours(24);
            due(x.count(13), height <= 100 ? 1 : 0);
            x.hours(24);
            due(x.count(13), 1);
        }
    }

    private static void owed() {
        says("PEOPLE times what is above is owed, by the BUILDER if OWE (IV) holds there, else by the TOWN");
        LowFall x = new LowFall();
        x.set(44, 2, 9999);
        x.set(44, 3, 0);
        x.set(45, 2, 10);
        x.set(45, 3, 40);
        x.set(54, 2, 9);
        x.set(54, 3, 40);
        x.set(44, 0, 300);
        x.set(44, 1, 3);
        law(x, OWE, "p>10|t>0&p<10");
        x.route(43, 44, 255, 1); // 46 deep: a dig of 230, a pull of 184: 92 and 46
        x.take(1, 0);
        x.gangs(0, 4);
        days(x, 2);
        due(x.count(11), 9999 * 92 + 9 * 6);
        due(x.count(12), 10 * 6);
        due(x.count(13), 3);
    }

    // Depth d at both cells of a line of a cement: laid as soon as it can be, not wet.
    private static LowFall laid(int cement, int depth, boolean wet, boolean told) {
        LowFall x = new LowFall();
        x.set(0, 0, 100 + depth);
        x.set(1, 0, 99 + depth);
        if (wet) x.set(0, 2, 100);
        lay(x, 0, 1, 100, 1, cement);
        if (told) x.bad(0, 0, true);
        return x;
    }

    private static int ageToBear(LowFall x) {
        int day = x.bears(0, 0);
        return day < 0 ? day : day - x.lineOf(0, 0, 4);
    }

    private static void strengths() {
        says("lime the lesser of 100 and of 2 times AGE");
        due(ageToBear(laid(0, 0, false, false)), 0);
        due(ageToBear(laid(0, 1, false, false)), 1);
        due(ageToBear(laid(0, 2, false, false)), 1);
        due(ageToBear(laid(0, 3, false, false)), 2);
        due(ageToBear(laid(0, 99, false, false)), 50);
        due(ageToBear(laid(0, 100, false, false)), 50);
        due(ageToBear(laid(0, 101, false, false)), LowFall.UNABLE);
        LowFall old = laid(0, 100, false, false);
        days(old, 60);
        due(old.carries(0), 1);
        old.set(0, 0, 201); // it grows no more
        due(old.carries(0), 0);
        says("half (cut) of that if WET");
        due(ageToBear(laid(0, 1, true, false)), 1);
        due(ageToBear(laid(0, 2, true, false)), 2);
        due(ageToBear(laid(0, 50, true, false)), 50);
        due(ageToBear(laid(0, 51, true, false)), LowFall.UNABLE);
        says("new the lesser of 300 and of (10 plus 6 times AGE)");
        due(ageToBear(laid(1, 10, false, false)), 0);
        due(ageToBear(laid(1, 11, false, false)), 1);
        due(ageToBear(laid(1, 16, false, false)), 1);
        due(ageToBear(laid(1, 17, false, false)), 2);
        due(ageToBear(laid(1, 17, true, false)), 2); // wet is nothing to it
        due(ageToBear(laid(1, 200, false, false)), 32);
        LowFall x = laid(1, 200, false, false);
        x.set(0, 0, 300);
        due(ageToBear(x), 32);
        x = new LowFall();
        x.set(1, 0, 300);
        lay(x, 0, 1, 1, 1, 1); // 300 deep at its end
        due(x.bears(0, 1) - x.lineOf(0, 1, 4), 49);
        x.bad(0, 1, true);
        due(x.bears(0, 1), LowFall.UNABLE);
        says("half (cut) of that if it is told BAD");
        due(ageToBear(laid(1, 5, false, true)), 0);
        due(ageToBear(laid(1, 6, false, true)), 1);
        due(ageToBear(laid(1, 8, false, true)), 1);
        due(ageToBear(laid(1, 9, false, true)), 2);
        due(ageToBear(laid(1, 150, false, true)), 49);
        due(ageToBear(laid(1, 151, false, true)), LowFall.UNABLE);
        due(ageToBear(laid(0, 3, false, true)), 3);
        due(ageToBear(laid(0, 1, true, true)), 2);
        due(ageToBear(laid(0, 2, true, true)), 4); // 8, 4, 2
        due(ageToBear(laid(0, 3, true, true)), 6);
        due(ageToBear(laid(0, 25, true, true)), 50);
        due(ageToBear(laid(0, 26, true, true)), LowFall.UNABLE);
        says("It BEARS if that is its DEPTH or more");
        x = laid(0, 20, false, false);
        due(ageToBear(x), 10);
        x.set(0, 0, 99); // below 0
        due(ageToBear(x), 0);
        x.bad(0, 0, true);
        due(ageToBear(x), 0);
    }

    private static void carrying() {
        says("A LINE CARRIES in an HOUR if all of it is LAID and BEARS on its DAY");
        LowFall x = new LowFall();
        x.route(0, 1, 94, 1); // depths 6 and 7: as lime 3 and 4 days
        x.take(1, 0);
        x.gangs(0, 4);
        x.kiln(9999);
        due(x.carries(0), 0);
        days(x, 2);
        due(x.lineOf(0, 1, 4), 2);
        days(x, 2);
        due(x.lineOf(0, 0, 4), 4);
        due(x.carries(0), 0);
        days(x, 2);
        x.hours(23);
        due(x.carries(0), 0); // the last hour of day 6
        due(x.of(0, 13), 50);
        x.set(0, 2, 1000);
        x.hours(1);
        due(x.carries(0), 1); // the first of day 7: its water is let on in that hour
        due(x.of(0, 13), 110);
        due(x.of(1, 9), 10);
        x.bad(0, 1, true); // on day 7: 5 days, 10, half
        due(x.carries(0), 0);
        x.hours(1);
        due(x.of(1, 9), 10);
        due(x.of(0, 9), 10);
        x.bad(0, 1, false);
        due(x.carries(0), 1);
        // What is laid with its last cell on a day carries from the next hour on.
        x.begin();
        x.route(0, 1, 101, 1); // digs 9 and 0, laid on days 1 and 3
        x.take(1, 1);
        x.gangs(0, 4);
        x.kiln(9999);
        days(x, 2);
        x.hours(23);
        x.set(0, 2, 1000);
        due(x.carries(0), 0);
        x.hours(1);
        due(x.carries(0), 1);
        due(x.of(0, 9), 10);
        due(x.of(1, 9), 0);
        x.hours(1);
        due(x.of(0, 9), 0);
        due(x.of(1, 9), 20);
    }

    private static void shut() {
        says("A CELL IN WORK of a LINE with GANGS is SHUT");
        LowFall x = new LowFall();
        x.route(0, 1, 101, 1);
        x.take(1, 0);
        due(x.of(1, 15), 0);
        x.gangs(0, 1);
        due(x.of(1, 15), 1);
        due(x.of(0, 15), 0);
        law(x, 0, "1=2"); // shut, though nothing may be dug
        days(x, 1);
        due(x.of(1, 15), 1);
        law(x, 0, "1=1");
        x.kiln(9999);
        days(x, 1);
        due(x.of(1, 15), 0);
        due(x.of(0, 15), 1);
        x.gangs(0, 0);
        due(x.of(0, 15), 0);
        x.gangs(0, 4);
        days(x, 2);
        due(x.lineOf(0, 0, 4), 4);
        due(x.of(0, 15), 0); // all laid
    }

    private static void cutOff() {
        says("CELLS with PEOPLE, no RIVER, from which BRIDGE (a CELL; 0 at first) can't be reached by sides");
        LowFall x = new LowFall();
        due(x.bridge(0), 0);
        due(x.cutOff(), 0);
        x.set(9, 2, 1);
        x.set(99, 2, 1);
        due(x.cutOff(), 0);
        x.set(8, 4, 1);
        x.set(19, 4, 1);
        due(x.cutOff(), 1); // nor over the edge to 10
        x.bridge(10);
        due(x.cutOff(), 1);
        x.bridge(9);
        due(x.cutOff(), 1); // 99, now
        x.set(99, 2, 0);
        due(x.cutOff(), 0);
        says("over CELLS that are neither SHUT nor RIVER (both ends too)");
        x = new LowFall();
        x.set(55, 2, 1);
        x.set(0, 2, 1);
        x.set(0, 4, 1);
        due(x.cutOff(), 1); // 55: the bridge is in a river, and 0 itself is one
        x.set(0, 4, 0);
        due(x.cutOff(), 0);
        x.route(1, 0, 90, 1);
        x.take(1, 0);
        x.gangs(0, 1);
        due(x.cutOff(), 2); // the bridge is shut: nobody reaches it, nor who lives there
        x.gangs(0, 0);
        x.route(54, 55, 90, 1);
        x.take(1, 0);
        x.gangs(1, 1);
        due(x.cutOff(), 1); // where they set out from is shut
        x.gangs(1, 0);
        due(x.cutOff(), 0);
        x.set(55, 4, 1);
        due(x.cutOff(), 0); // a river is not counted
    }
}
