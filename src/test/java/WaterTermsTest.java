// The edges that the document's Terms name, IV to VII, a sentence after the other.
public final class WaterTermsTest extends Due {
    private static final int DIG = 0, OWE = 1, OPEN = 2;

    public static void main(String[] args) {
        textsAndLaws();
        tests();
        units();
        facts();
        deep();
        sums();
        firstFaults();
        inForce();
        made();
        letOn();
        letOnByLines();
        toRivers();
        lifts();
        tanks();
        gates();
        holds();
        cellars();
        pumps();
        costs();
        traces();
        bestChoices();
        rates();
        tapes();
        refusalsOfTheHost();
        end("terms IV to VII");
    }

    // ---- IV

    private static void textsAndLaws() {
        says("LAWS are TEXTS (60 bytes at most");
        LowFall x = new LowFall();
        String sixty = "1+1+1+1+1+1+1+1+1+1+1+1+1+1+1+1+1+1+1+1+1+1+1+1+1+1+1+1=28";
        due(sixty.length(), 58);
        due(law(x, OWE, sixty + "*1"), 0);
        due(x.holds(OWE, 0), 1);
        due(law(x, OWE, sixty + "*1" + "1"), LowFall.FULL); // 61 bytes that can be read
        due(law(x, OWE, sixty + "*1+1+1"), LowFall.FULL);
        due(law(x, OWE, sixty + "*1+"), -161); // a fault is named first
        due(x.count(16), 1);
        says("20 LAWS)");
        x = new LowFall();
        for (int k = 0; k < 20; k++) due(law(x, k % 3, "1=1"), k);
        for (int kind = 0; kind < 3; kind++) due(law(x, kind, "1=1"), LowFall.FULL);
        due(law(x, DIG, "1="), -102);
        due(x.count(16), 20);
        says("for 0 DIG, 1 OWE, 2 OPEN, from a DAY on");
        x = new LowFall();
        text(x, 0, "1=1");
        due(x.law(-1, 0, 0), LowFall.NONE);
        due(x.law(3, 0, 0), LowFall.NONE);
        due(x.law(0, -1, 0), LowFall.NONE);
        due(x.law(0, 5000, 0), LowFall.NONE);
        due(x.law(0, 4999, 0), 0);
        due(x.law(2, 0, 0), 1);
    }

    private static void read(LowFall x, String bytes, boolean holds) {
        if (x.count(16) == 20) x.begin();
        due(law(x, OWE, bytes), x.count(16) - 1);
        due(x.holds(OWE, 0), holds ? 1 : 0);
    }

    private static void fault(String bytes, int place) {
        due(law(new LowFall(), OWE, bytes), -100 - place);
    }

    private static void tests() {
        says("ORS: ANDS { \"|\" ANDS }; ANDS: TEST { \"&\" TEST }");
        LowFall x = new LowFall();
        read(x, "1=1|1=2&1=2", true);
        read(x, "1=2&1=2|1=1", true);
        read(x, "1=2|1=2|1=1", true);
        read(x, "1=1&1=1&1=2", false);
        read(x, "1=2|1=2", false);
        fault("1=1|", 4);
        fault("1=1&", 4);
        fault("|1=1", 0);
        fault("&1=1", 0);
        fault("1=1||1=1", 4);
        fault("1=1&|1=1", 4);
        says("TEST: \"!\" TEST, \"(\" ORS \")\", SUM SIGN SUM (\"<\", \"=\" or \">\")");
        read(x, "!1=2&1=1", true);
        read(x, "!1=1|1=1", true); // "!" goes to one TEST alone
        read(x, "!(1=1|1=1)", false);
        read(x, "!!1=1", true);
        read(x, "(1=1|1=1)&1=2", false);
        read(x, "4<5", true);
        read(x, "5<5", false);
        read(x, "5=5", true);
        read(x, "5=4", false);
        read(x, "5>5", false);
        read(x, "5>4", true);
        fault("1=1=1", 3);
        fault("1<=1", 2);
        fault("()", 1);
        fault("(1)=1", 2);
        fault("1=(1)", 2);
        fault("1=!1", 2);
        fault("1!=1", 1);
        fault("(1=1", 4);
        fault("1=1)", 3);
        fault("1=1(1=1)", 3);
        says("SUM: UNIT { \"+\" UNIT, \"-\" UNIT, \"*\" UNIT } from the left");
        read(x, "2+3*4=20", true);
        read(x, "20=2+3*4", true);
        read(x, "9-3-2=4", true);
        read(x, "2*3+4=10", true);
        fault("+1=1", 0);
        fault("-1=1", 0);
        fault("1+=1", 2);
        fault("1+-1=0", 2);
        fault("1*", 2);
    }

    private static void units() {
        says("UNIT: a number of 1 to 4 digits");
        LowFall x = new LowFall();
        read(x, "0=0", true);
        read(x, "9999>999", true);
        read(x, "0001=1", true);
        fault("12345=1", 4);
        fault("00001=1", 4);
        fault("1=12345", 6);
        fault("1 =1", 1);
        fault("=1", 0);
        says("or a letter, a FACT");
        for (char c = 0; c < 128; c++) {
            boolean stands = "hsptdkowfcmu".indexOf(c) >= 0;
            due(law(new LowFall(), OWE, c + "=1"), stands ? 0 : (c >= '0' && c <= '9') ? 0 : c == '!' || c == '(' ? -101 : -100);
        }
        fault("hh=1", 1);
        fault("h1=1", 1);
        fault("1h=1", 1);
    }

    private static boolean fact(LowFall x, int cell, String bytes) {
        due(law(x, OWE, bytes), x.count(16) - 1);
        return x.holds(OWE, cell) == 1;
    }

    private static void isFact(LowFall x, int cell, String bytes) {
        due(fact(x, cell, bytes) ? 1 : 0, 1);
    }

    private static void facts() {
        says("h HEIGHT, s SOIL, p PEOPLE, t TENDER (of a CELL now)");
        LowFall x = new LowFall();
        x.set(99, 0, 300);
        x.set(99, 1, 3);
        x.set(99, 2, 9999);
        x.set(99, 3, 99);
        isFact(x, 99, "h=300&s=3&p=9999&t=99");
        isFact(x, 98, "h=100&s=0&p=0&t=50");
        x.set(99, 0, 0);
        due(x.holds(OWE, 99), 0);
        says("d the greatest DEPTH there of LINES (0 none)");
        x = new LowFall();
        isFact(x, 1, "d=0");
        x.route(0, 1, 91, 1);
        x.take(1, 0);
        isFact(x, 1, "d=10");
        isFact(x, 0, "d=9");
        isFact(x, 2, "d=0");
        x.route(1, 2, 80, 1);
        x.take(1, 0);
        isFact(x, 1, "d=20");
        x.route(1, 2, 95, 1);
        x.take(1, 0);
        isFact(x, 1, "d=20");
        says("k DAY, o HOUR less 24 DAY, w LEVEL");
        x = new LowFall();
        levels(x, -128, 127);
        isFact(x, 0, "k=0&o=0&w=0-128");
        x.hours(23);
        isFact(x, 0, "k=0&o=23&w=127");
        x.hours(1);
        isFact(x, 0, "k=1&o=0&w=0-128");
        says("f FOUL in its drain, c water in its cellars");
        x = new LowFall();
        x.set(0, 2, 4000);
        x.rain(30);
        x.hours(1);
        isFact(x, 0, "f=40&c=20");
        x.hours(1);
        isFact(x, 0, "f=50&c=90");
        due(x.of(0, 11), 30);
        isFact(x, 1, "f=0&c=10");
        says("m tellings of it by THE MAP");
        x = new LowFall();
        isFact(x, 0, "m=0");
        x.map(0, 1, 5);
        x.map(0, 1, 5);
        x.map(1, 2, 5);
        x.hours(24);
        x.cut(0);
        isFact(x, 0, "m=3");
        isFact(x, 1, "m=1");
        says("u CELLS BESIDE it that are SHUT");
        x = new LowFall();
        x.route(8, 9, 90, 1);
        x.take(1, 0);
        isFact(x, 8, "u=0");
        x.gangs(0, 1);
        isFact(x, 8, "u=1");
        isFact(x, 19, "u=1");
        isFact(x, 9, "u=0");
        isFact(x, 10, "u=0"); // not round the edge
        isFact(x, 18, "u=0");
        x.take(1, 0);
        x.gangs(1, 1);
        isFact(x, 8, "u=1"); // one cell, though of two lines
        x = new LowFall();
        int[] shut = {34, 43, 45, 54};
        for (int k = 0; k < 4; k++) {
            x.route(44, shut[k], 90, 1);
            x.take(1, 0);
            x.gangs(k, 1);
            isFact(x, 44, "u=" + (k + 1));
            for (int other : new int[] {34, 43, 45, 54}) isFact(x, other, "u=0");
        }
    }

    private static void deep() {
        says("\"(\" and \"!\" are 5 deep at most, together");
        LowFall x = new LowFall();
        read(x, "!!!!!1=2", true);
        read(x, "(((((1=1)))))", true);
        read(x, "!(!(!1=2))", true);
        read(x, "(!(!(1=1)))", true);
        read(x, "(((((1=1)))))&(((((1=1)))))|!!!!!1=1", true);
        fault("!!!!!!1=1", 5);
        fault("((((((1=1))))))", 5);
        fault("(!(!(!1=1)))", 5);
        fault("!(!(!(1=1)))", 5);
        fault("1=1&((((!(1=1)))))", 9);
    }

    private static void sums() {
        says("sums stay within -1000000 .. 1000000 (at these ends");
        LowFall x = new LowFall();
        read(x, "1000*1000=9999*9999", true);
        read(x, "1000*1000+1=1000*1000", true);
        read(x, "1000*1000+1-1=1000*1000-1", true); // at the end, then one less
        read(x, "1000*1000-1<1000*1000", true);
        read(x, "0-1000*1000=0-9999*9999", true);
        read(x, "0-1000*1000-1=0-1000*1000", true);
        read(x, "0-1000*1000-1+1=0-1000*1000+1", true);
        read(x, "0-9999*9999*9999=0-1000*1000", true);
        read(x, "999*1000+999<1000*1000", true);
        says("a UNIT alone is as it is)");
        x = new LowFall();
        x.set(0, 2, 9999);
        x.rain(200);
        for (int i = 0; i < 14; i++) x.hours(240); // 299 tons an hour
        isFact(x, 0, "c>1000*1000");
        isFact(x, 0, "1000*1000<c");
        isFact(x, 0, "c+0=1000*1000");
        isFact(x, 0, "c-1=1000*1000");
        isFact(x, 0, "c*1=1000*1000");
        isFact(x, 0, "0+c=1000*1000");
        due(x.of(0, 11) + x.of(0, 12) > 1000001 ? 1 : 0, 1);
    }

    private static void firstFaults() {
        says("FIRST FAULT: the place of the first byte that can't stand");
        fault("x", 0);
        fault(" 1=1", 0);
        fault("1=1 ", 3);
        fault("1=1x", 3);
        fault("1=x&", 2);
        fault("1?1", 1);
        fault("1=1&x=1&x", 4);
        LowFall x = new LowFall();
        row(x, 0, 1, '1', '=', -79); // -79 is the byte 177, not "1" (49)
        due(x.law(0, 0, 0), -102);
        row(x, 0, 1, '1', '=', 305); // narrowed it is "1"
        due(x.law(0, 0, 0), 0);
        row(x, 0, 1, '1', 0, '1');
        due(x.law(0, 0, 0), -101);
        row(x, 0, 1, '1', -128, '1');
        due(x.law(0, 0, 0), -101);
        x.tape(0, 1, 100);
        due(x.law(0, 0, 0), -100);
        says("(the row's length if something lacks)");
        fault("", 0);
        fault("1", 1);
        fault("1=", 2);
        fault("1=1|", 4);
        fault("(", 1);
        fault("!", 1);
        fault("((1=1)", 6);
        fault("1=1&!(h+1", 9);
        StringBuilder hundred = new StringBuilder("1");
        while (hundred.length() < 99) hundred.append("+1");
        due(hundred.length(), 99);
        fault(hundred + "+", 100);
        fault(hundred.toString(), 99);
    }

    private static void inForce() {
        says("In force on a DAY: of those from that DAY or earlier the latest; of several the greatest number");
        LowFall x = new LowFall();
        text(x, 0, "1=2");
        text(x, 1, "1=1");
        x.law(DIG, 3, 0); // 0
        x.law(DIG, 1, 1); // 1
        x.law(DIG, 3, 1); // 2
        x.law(DIG, 2, 0); // 3
        x.law(OPEN, 4, 0); // 4
        due(x.inForce(DIG, 0), -9);
        due(x.inForce(DIG, 1), 1);
        due(x.inForce(DIG, 2), 3);
        due(x.inForce(DIG, 3), 2);
        due(x.inForce(DIG, 4999), 2);
        due(x.inForce(OWE, 4999), -9);
        due(x.inForce(OPEN, 3), -9);
        due(x.inForce(OPEN, 4), 4);
        x.hours(24);
        due(x.holds(DIG, 0), 1);
        x.hours(23);
        due(x.holds(DIG, 0), 1);
        x.hours(1);
        due(x.holds(DIG, 0), 0);
        x.hours(24);
        due(x.holds(DIG, 0), 1);
        says("Without one DIG and OPEN hold, OWE doesn't");
        x = new LowFall();
        due(x.holds(DIG, 0), 1);
        due(x.holds(OWE, 0), 0);
        due(x.holds(OPEN, 0), 1);
        for (int kind = 0; kind < 3; kind++) {
            x.law(kind, 1, 1);
            text(x, 1, kind == 0 ? "1=2" : kind == 1 ? "1=1" : "1=2");
            x.law(kind, 1, 1);
        }
        due(x.holds(DIG, 0) + x.holds(OPEN, 0) - x.holds(OWE, 0), 2); // none yet
        x.hours(24);
        due(x.holds(DIG, 0) + x.holds(OPEN, 0) - x.holds(OWE, 0), -1);
    }

    // ---- V

    private static void made() {
        says("(1) Each CELL that is no RIVER makes PEOPLE / 100 tons of FOUL and R tons of RAIN into its drain");
        LowFall x = new LowFall();
        int[] people = {0, 99, 100, 199, 200, 4999}, foul = {0, 0, 1, 1, 2, 49};
        for (int c = 0; c < 6; c++) x.set(c, 2, people[c]);
        x.rain(1);
        x.set(6, 2, 9999);
        x.set(6, 4, 1);
        x.hours(1);
        for (int c = 0; c < 6; c++) {
            due(x.of(c, 9), foul[c]);
            due(x.of(c, 10), 1);
        }
        due(x.of(6, 9) + x.of(6, 10), 0);
        due(x.count(1), 53);
        due(x.count(2), 99);
        says("(R 0 .. 200, told; 0 at first)");
        x = new LowFall();
        x.hours(1);
        due(x.count(2), 0);
        due(x.rain(201), LowFall.NONE);
        due(x.rain(-1), LowFall.NONE);
        due(x.rain(200), 0);
        x.hours(1);
        due(x.count(2), 20000);
        due(x.rain(0), 200);
        x.hours(1);
        due(x.count(2), 20000);
    }

    private static void letOn() {
        says("(2) Each CELL without LIFT or OUT lets on, all at once");
        LowFall x = new LowFall();
        x.set(0, 2, 1000);
        for (int c = 0; c < 3; c++) x.old(c, c + 1, 90, 9);
        x.hours(1);
        due(x.of(0, 9), 0);
        due(x.of(1, 9), 10); // it goes one cell an hour
        due(x.of(2, 9), 0);
        x.set(0, 2, 0);
        x.old(10, 0, 90, 9);
        x.set(10, 2, 700);
        x.old(0, -1, 90, 9);
        x.hours(1);
        due(x.of(1, 9), 0);
        due(x.of(2, 9), 10);
        due(x.of(0, 9), 7);
        x.lift(2, 9, 5, 0);
        x.hours(1);
        due(x.of(2, 9), 10); // a lift without coal, and no letting on beside it
        due(x.of(3, 9), 0);
        x = new LowFall();
        x.set(0, 2, 1000);
        x.old(0, 1, 90, 9);
        x.out(0, 3, 1, -128);
        x.hours(1);
        due(x.of(0, 9), 7);
        due(x.of(1, 9), 0);
        says("FOUL first ... else to its DOWN, 20 times WIDE squared at most");
        int[] most = {0, 20, 80, 180, 320};
        for (int wide = 0; wide <= 4; wide++) {
            x = new LowFall();
            x.set(0, 2, 9999);
            x.rain(200);
            x.old(0, 1, 90, wide);
            x.hours(1);
            int foul = Math.min(99, most[wide]), rain = Math.min(200, most[wide] - foul);
            due(x.of(0, 9) + x.of(0, 11), 99 - foul);
            due(x.of(0, 10) + x.of(0, 12), 200 - rain);
            due(x.of(1, 9) + x.of(1, 11), foul);
            due(x.of(1, 10) + x.of(1, 12), 200 + rain);
        }
    }

    private static void letOnByLines() {
        says("if it is on a LINE that CARRIES ..., but not its last CELL, to the next one, 30 times WIDTH squared at most");
        for (int width = 1; width <= 3; width++) {
            LowFall x = new LowFall();
            lay(x, 0, 2, 100, width, 1);
            x.old(0, 10, 90, 9);
            x.old(1, 11, 90, 9);
            x.set(0, 2, 9999);
            x.rain(200);
            x.hours(1);
            int most = 30 * width * width, foul = Math.min(99, most), rain = Math.min(200, most - foul);
            due(x.of(0, 9) + x.of(0, 11), 99 - foul);
            due(x.of(0, 10) + x.of(0, 12), 200 - rain);
            due(x.of(1, 9) + x.of(1, 11), foul);
            due(x.of(1, 10) + x.of(1, 12), 200 + rain - Math.min(200, most));
            due(x.of(10, 9) + x.of(11, 9), 0);
        }
        says("but not its last CELL ... else to its DOWN");
        LowFall x = new LowFall();
        lay(x, 0, 1, 100, 9, 1);
        x.old(1, 11, 90, 1);
        x.set(1, 2, 3000);
        x.hours(1);
        due(x.of(1, 9), 10);
        due(x.of(11, 9), 20);
        says("(the first of these)");
        x = new LowFall();
        int late = lay(x, 0, 1, 100, 1, 1), other = lay(x, 0, 10, 100, 3, 1);
        due(other - late, 1);
        x.set(0, 2, 2000);
        x.hours(1);
        due(x.of(1, 9), 20);
        due(x.of(10, 9), 0);
        x.set(1, 0, 200); // the first carries no more: the second does
        x.hours(1);
        due(x.of(1, 9), 20);
        due(x.of(10, 9), 20);
    }

    private static void toRivers() {
        says("What comes to a RIVER: FOUL is DIRT, RAIN is in the SEA");
        LowFall x = new LowFall();
        x.set(1, 4, 1);
        x.set(0, 2, 1000);
        x.rain(3);
        x.old(0, 1, 90, 1);
        x.hours(1);
        due(x.count(3), 10);
        due(x.count(4), 3);
        due(x.of(1, 9) + x.of(1, 10), 0);
        due(x.count(7), 0);
        due(x.count(8), 98 * 3);
        x.old(0, -1, 90, 1);
        x.lift(0, 1, 12, 1);
        x.hours(1);
        due(x.count(3), 20);
        due(x.count(4), 3 + 2);
        due(x.house(0, 2), 0);
    }

    private static void lifts() {
        says("(3) LIFTS by CELLS: if it is not STOPPED");
        LowFall x = new LowFall();
        x.set(10, 2, 1000);
        x.lift(10, 20, 50, 5);
        x.lift(20, 30, 50, 5);
        x.stop(20, true);
        x.hours(1);
        due(x.of(20, 9), 10);
        due(x.house(20, 2), 5);
        x.stop(20, false);
        x.hours(1);
        due(x.of(20, 9), 0);
        due(x.of(30, 9), 20); // from 10 by 20 in one hour
        x = new LowFall();
        x.set(20, 2, 1000);
        x.lift(20, 10, 50, 5);
        x.lift(10, 0, 50, 5);
        x.hours(1);
        due(x.of(10, 9), 10); // against the numbers in two
        due(x.of(0, 9), 0);
        says("of its drain POWER tons at most, and 100 times its COAL at most, FOUL first");
        int[][] told = {{1, 9}, {99, 9}, {100, 9}, {298, 9}, {299, 9}, {9999, 9}, {9999, 0}, {9999, 1}, {9999, 2}, {9999, 3}};
        for (int[] t : told) {
            x = new LowFall();
            x.set(0, 2, 9999);
            x.rain(200);
            x.lift(0, 1, t[0], t[1]);
            x.hours(1);
            int tons = Math.min(299, Math.min(t[0], 100 * t[1])), foul = Math.min(99, tons);
            due(x.of(0, 9) + x.of(0, 11), 99 - foul);
            due(x.of(0, 10) + x.of(0, 12), 200 - (tons - foul));
            due(x.of(1, 9) + x.of(1, 11), foul);
            due(x.of(1, 10) + x.of(1, 12), 200 + tons - foul);
        }
        says("COAL is less by one for each 100 begun");
        int[] powers = {1, 99, 100, 101, 199, 200, 201, 299}, burnt = {1, 1, 1, 2, 2, 2, 3, 3};
        for (int k = 0; k < powers.length; k++) {
            x = new LowFall();
            x.set(0, 2, 9999);
            x.rain(200);
            x.lift(0, 1, powers[k], 9);
            x.hours(1);
            due(x.house(0, 2), 9 - burnt[k]);
        }
        x = new LowFall();
        x.lift(0, 1, 100, 9);
        x.hours(1);
        due(x.house(0, 2), 9); // nothing to lift, nothing burnt
    }

    private static void tanks() {
        says("(4) OUTS by CELLS: the drain's water goes to its TANK as its SIZE lets, FOUL first");
        int[] sizes = {1, 98, 99, 100, 298, 299, 300};
        for (int size : sizes) {
            LowFall x = new LowFall();
            x.set(0, 2, 9999);
            x.rain(200);
            x.out(0, size, 1, -128);
            x.hours(1);
            int foul = Math.min(99, size), rain = Math.min(200, size - foul);
            due(x.house(0, 0), foul);
            due(x.house(0, 1), rain);
            due(x.of(0, 9) + x.of(0, 11), 99 - foul);
            due(x.of(0, 10) + x.of(0, 12), 200 - rain);
        }
        LowFall x = new LowFall();
        x.set(0, 2, 300);
        x.rain(4);
        x.out(0, 10, 1, -128);
        x.hours(2); // 3 and 4, then what room is left: 3 more of foul and none of rain
        due(x.house(0, 0), 6);
        due(x.house(0, 1), 4);
        due(x.of(0, 10), 4);
        x.hours(1);
        due(x.house(0, 0), 6); // full
        due(x.of(0, 9), 3);
    }

    private static void gates() {
        says("if OPEN holds there and LEVEL is below its SILL, GATE tons at most go out");
        for (int sill = 4; sill <= 6; sill++) {
            LowFall x = new LowFall();
            levels(x, 5);
            x.set(0, 2, 1000);
            x.out(0, 100, 4, sill);
            x.hours(1);
            due(x.count(5), sill == 6 ? 4 : 0); // at its sill it isn't below
        }
        LowFall x = new LowFall();
        levels(x, 9, 1, 9, 9); // the level of the hour that has come counts
        x.set(0, 2, 1000);
        x.out(0, 100, 4, 2);
        x.hours(1);
        due(x.count(5) + x.count(6), 4);
        x.hours(2);
        due(x.count(5) + x.count(6), 4);
        x = new LowFall();
        x.set(0, 2, 1000);
        x.set(1, 2, 1000);
        x.out(0, 100, 4, 1);
        x.out(1, 100, 4, 1);
        x.set(1, 1, 1);
        law(x, OPEN, "s=1");
        x.hours(1);
        due(x.house(0, 0), 10);
        due(x.house(1, 0), 6);
        says("FOUL first: RAIN to the SEA, FOUL is BACK if it COMES BACK, else GONE");
        int[] gates = {1, 9, 10, 11, 14, 15, 16};
        for (int gate : gates) {
            for (int back = 0; back <= 1; back++) {
                x = new LowFall();
                if (back == 1) levels(x, 0, 0, 0, 0, 0, 0, 0, 0, 0, 0, 0, 0, 0, 1); // at hour 1 the 12th ebb
                else levels(x, 0, 0, 0, 0, 0, 0, 0, 0, 0, 0, 0, 0, 0, 0, 1); // the 13th
                x.set(0, 2, 1000);
                x.rain(5);
                x.out(0, 100, gate, 1);
                x.hours(1);
                int foul = Math.min(10, gate), rain = Math.min(5, gate - foul);
                due(x.count(6), back == 1 ? foul : 0);
                due(x.count(5), back == 1 ? 0 : foul);
                due(x.count(4), rain);
                due(x.house(0, 0), 10 - foul);
                due(x.house(0, 1), 5 - rain);
            }
        }
    }

    private static void holds() {
        says("(5) HOLD of a CELL: 50, and 40 times WIDE, and 60 times WIDTH of the first LINE that CARRIES and has it");
        LowFall x = new LowFall();
        due(x.of(0, 13), 50);
        for (int wide = 0; wide <= 9; wide++) {
            x.old(0, -1, 0, wide);
            due(x.of(0, 13), 50 + 40 * wide);
        }
        x.old(0, -1, 0, 1);
        lay(x, 0, 1, 100, 2, 1);
        due(x.of(0, 13), 50 + 40 + 120);
        due(x.of(1, 13), 50 + 120);
        due(x.of(2, 13), 50);
        lay(x, 0, 10, 100, 9, 1);
        due(x.of(0, 13), 50 + 40 + 120);
        due(x.of(10, 13), 50 + 540);
        x.set(1, 0, 300); // the first carries no more
        due(x.of(0, 13), 50 + 40 + 540);
        due(x.of(1, 13), 50);
    }

    private static void cellars() {
        says("What a drain has above HOLD comes up into cellars, RAIN first");
        int[][] made = {{50, 0}, {51, 0}, {49, 1}, {49, 2}, {50, 3}, {53, 2}, {10, 41}};
        int[][] up = {{0, 0}, {1, 0}, {0, 0}, {0, 1}, {0, 3}, {3, 2}, {0, 1}};
        for (int k = 0; k < made.length; k++) {
            LowFall x = new LowFall();
            x.set(0, 2, 100 * made[k][0]);
            x.rain(made[k][1]);
            x.hours(1);
            due(x.of(0, 11), up[k][0]);
            due(x.of(0, 12), up[k][1]);
            due(x.of(0, 9), made[k][0] - up[k][0]);
            due(x.of(0, 10), made[k][1] - up[k][1]);
        }
        says("where it has less, as much as is missing, 5 at most, comes back from them, FOUL first");
        int[] lifted = {0, 1, 4, 5, 6, 50};
        for (int tons : lifted) {
            LowFall x = new LowFall();
            x.set(0, 2, 5300); // 53 of foul and 30 of rain: 3 and 30 come up
            x.rain(30);
            x.hours(1);
            x.set(0, 2, 0);
            x.rain(0);
            due(x.of(0, 11), 3);
            due(x.of(0, 12), 30);
            if (tons > 0) x.lift(0, 99, tons, 9);
            x.hours(1);
            int back = Math.min(5, tons), foul = Math.min(3, back);
            due(x.of(0, 11), 3 - foul);
            due(x.of(0, 12), 30 - (back - foul));
            due(x.of(0, 9), 50 - tons + foul);
            due(x.of(0, 10), back - foul);
        }
        LowFall x = new LowFall();
        x.set(0, 2, 5200);
        x.hours(1);
        x.set(0, 2, 0);
        x.lift(0, 99, 50, 1);
        x.hours(1); // more is missing than there is
        due(x.of(0, 11), 0);
        due(x.of(0, 9), 2);
    }

    // Foul in the cellars of a cell, and nothing else; a pump at another; people at a third.
    private static int ill(int foulAt, int pumpAt, int peopleAt, int people) {
        LowFall x = new LowFall();
        x.set(foulAt, 2, 5100);
        x.hours(1);
        x.set(foulAt, 2, 0);
        x.set(pumpAt, 5, 1);
        x.set(peopleAt, 2, people);
        x.hours(23);
        return x.of(pumpAt, 16);
    }

    private static void pumps() {
        says("(6) If HOUR is 24 times a DAY: ... each CELL with PEOPLE drinks");
        LowFall x = new LowFall();
        x.set(0, 2, 9999);
        x.set(0, 5, 1);
        x.hours(23);
        due(x.of(0, 16), 0);
        x.hours(1);
        due(x.of(0, 16), 199);
        x.hours(23);
        due(x.of(0, 16), 199);
        x.hours(1);
        due(x.of(0, 16), 398);
        due(x.count(14), 398);
        says("at the NEAREST PUMP (the least of several)");
        x = new LowFall();
        x.set(44, 2, 9999);
        for (int pump : new int[] {64, 46, 42, 24}) x.set(pump, 5, 1);
        for (int foul : new int[] {24, 42, 46, 64}) x.set(foul, 2, 5100);
        x.hours(24);
        due(x.of(24, 16), 199 + 102);
        for (int pump : new int[] {64, 46, 42}) due(x.of(pump, 16), 102);
        x.set(24, 5, 0);
        x.hours(24);
        due(x.of(24, 16), 301);
        due(x.of(42, 16), 102 + 199 + 102 + 102); // 24 is 4 off from 42 and from 46
        says("a PUMP is BAD if there is FOUL in cellars of its CELL or of one BESIDE");
        due(ill(44, 44, 99, 500), 10);
        for (int beside : new int[] {34, 43, 45, 54}) due(ill(44, beside, 99, 500), 10);
        for (int off : new int[] {33, 35, 53, 55, 24, 42, 46, 64}) due(ill(44, off, 99, 500), 0);
        due(ill(9, 10, 99, 500), 0); // not round the edge
        due(ill(10, 9, 99, 500), 0);
        due(ill(0, 90, 99, 500), 0);
        x = new LowFall(); // rain in cellars makes nobody ill
        x.set(0, 2, 5000);
        x.rain(9);
        x.set(0, 5, 1);
        x.hours(1);
        x.set(0, 2, 0);
        x.set(1, 2, 99);
        x.hours(23);
        due(x.of(0, 11), 0);
        due(x.of(0, 12) > 0 ? 1 : 0, 1);
        due(x.of(0, 16), 0);
        x = new LowFall(); // without a PUMP nobody drinks
        x.set(0, 2, 9999);
        x.set(0, 5, 1);
        x.hours(24);
        x.set(0, 5, 0);
        x.hours(24);
        due(x.of(0, 16), 199);
        due(x.count(14), 199);
        says("then ILL there are PEOPLE / 50 more");
        due(ill(44, 44, 99, 0), 0);
        due(ill(44, 44, 99, 49), 0);
        due(ill(44, 44, 99, 50), 1);
        due(ill(44, 44, 99, 99), 1);
        due(ill(44, 44, 99, 100), 2);
        due(ill(44, 44, 99, 9999), 199);
        x = new LowFall(); // each cell's own part: 49 and 49 are none
        x.set(0, 2, 5100);
        x.hours(1);
        for (int c = 0; c < 4; c++) x.set(c, 2, 49);
        x.set(0, 5, 1);
        x.hours(23);
        due(x.of(0, 16), 0);
    }

    // ---- VI

    private static void costs() {
        says("COST: DIG of all their CELLS and 10 times WIDTH for each CELL");
        LowFall x = new LowFall();
        x.set(1, 1, 3);
        x.route(0, 2, 101, 1); // 9, 0, 2
        x.take(9, 0);
        x.route(1, 0, 98, 1); // 10, 6
        x.take(1, 0);
        row(x, 0, 5, 1, 0);
        due(x.judge(0, 9 + 2 + 270 - 1), -100);
        due(x.judge(0, 9 + 2 + 270), 0);
        row(x, 0, 5, 0, 1);
        due(x.judge(0, 10 + 6 + 20 - 1), -101);
        due(x.judge(0, 10 + 6 + 20), 0);
        row(x, 0, 5, 1, 1);
        due(x.judge(0, 281 + 36 - 1), -101);
        due(x.judge(0, 281 + 36), 0);
        row(x, 0, 5, 0, 0);
        due(x.judge(0, 0), 0);
    }

    private static void traces() {
        says("TRACE of a CELL ...: till it ends well, comes to a RIVER (FOULED), has no DOWN, or 200 steps were made");
        LowFall x = new LowFall();
        x.set(0, 2, 7);
        due(x.best(0, 1), 0); // no DOWN
        x.old(0, 1, 0, 0);
        due(x.best(0, 1), 0);
        x.set(1, 4, 1);
        due(x.best(0, 1), 7);
        x.set(1, 4, 0);
        x.old(1, 0, 0, 0); // round and round
        due(x.best(0, 1), 0);
        x = new LowFall(); // the longest way of all: 99 steps to a river
        for (int c = 0; c < 99; c++) {
            int y = c / 10, k = c % 10;
            int from = 10 * y + (y % 2 == 0 ? k : 9 - k), next = c + 1;
            int to = 10 * (next / 10) + (next / 10 % 2 == 0 ? next % 10 : 9 - next % 10);
            x.old(from, to, 0, 0);
            x.set(from, 2, 1);
        }
        due(x.best(0, 1), 0);
        x.set(90, 4, 1);
        due(x.best(0, 1), 99);
        x.lift(50, 51, 1, 0);
        due(x.best(0, 1), 99 - 60); // those before it and it go round now
        x = new LowFall(); // whatever cell is asked first
        x.set(11, 4, 1);
        x.old(10, 11, 0, 0);
        x.old(20, 10, 0, 0);
        x.old(0, 10, 0, 0);
        x.old(30, 20, 0, 0);
        for (int c = 0; c < 40; c += 10) x.set(c, 2, 1 + c);
        due(x.best(0, 1), 1 + 11 + 21 + 31);
        x.set(10, 2, 0);
        x.set(0, 2, 0);
        due(x.best(0, 1), 21 + 31);
        says("(a CELL with OUT: it ends well; with LIFT: to its TO)");
        x = new LowFall();
        x.set(0, 2, 7);
        x.set(20, 4, 1);
        x.old(0, 10, 0, 1);
        x.old(10, 20, 0, 1);
        due(x.best(0, 1), 7);
        x.out(10, 1, 1, 0);
        due(x.best(0, 1), 0);
        x.lift(0, 20, 1, 0);
        x.stop(0, true);
        due(x.best(0, 1), 7);
        says("PEOPLE (of CELLS that are no RIVER)");
        x.set(0, 4, 1);
        due(x.best(0, 1), 0);
        says("as (2) tells if just these LINES CARRY");
        x = new LowFall();
        x.set(0, 2, 7);
        x.set(10, 4, 1);
        x.old(0, 10, 0, 1);
        lay(x, 0, 1, 100, 1, 1);
        due(x.carries(0), 1);
        row(x, 0, 5, 0);
        due(x.judge(0, 9999999), 7); // it carries, but isn't chosen
        x.route(0, 11, 100, 1);
        x.take(1, 1);
        row(x, 0, 5, 0, 1);
        due(x.judge(0, 9999999), 0); // chosen, though nothing of it is laid
        x.old(11, 10, 0, 1);
        due(x.judge(0, 9999999), 7); // from its last cell by DOWN
        row(x, 0, 5, 1, 1);
        due(x.judge(0, 9999999), 0); // the first one that has the cell counts
    }

    private static void bestChoices() {
        says("The BEST one for a sum: COST not above it, the fewest PEOPLE ... whose TRACE is FOULED");
        LowFall x = new LowFall();
        x.set(0, 2, 5);
        x.set(2, 2, 6);
        x.set(10, 4, 1);
        x.set(12, 4, 1);
        x.old(0, 10, 0, 1);
        x.old(2, 12, 0, 1);
        due(x.best(9999999, 0), 0);
        x.route(0, 1, 100, 1); // 2 and 20
        x.take(1, 0);
        x.route(2, 3, 100, 1);
        x.take(1, 0);
        due(x.best(0, 0), 0);
        due(x.best(0, 1), 11);
        due(x.best(0, 2), 0);
        due(x.best(21, 0), 0);
        due(x.best(22, 0), 2); // 6 of them rather than 5
        due(x.best(22, 1), 5);
        due(x.best(22, 2), 22);
        x.set(0, 2, 7);
        due(x.best(22, 0), 1);
        x.set(0, 2, 5);
        due(x.best(43, 0), 2);
        due(x.best(44, 0), 3);
        due(x.best(44, 1), 0);
        due(x.best(9999999, 2), 44);
        says("of these the least COST");
        x.route(0, 1, 101, 1); // 9 and 20
        x.take(1, 0);
        due(x.best(9999999, 0), 3);
        x.set(1, 0, 101); // now the third is 9 + 2, the first 0 + 4
        due(x.best(9999999, 0), 3);
        x.set(0, 0, 101); // 0 + 2 is the third, 2 + 4 the first
        due(x.best(9999999, 0), 6);
        due(x.best(9999999, 2), 44);
        says("then as bits (LINE i: 2 to the i) the least");
        x.route(0, 1, 101, 1);
        x.take(1, 0);
        due(x.best(9999999, 0), 6);
        x.set(2, 2, 0);
        due(x.best(9999999, 0), 4);
        for (int k = 4; k < 8; k++) x.take(1, 0);
        due(x.best(9999999, 0), 4);
        x.begin(); // only the eighth leads from there
        x.set(0, 2, 5);
        x.set(10, 4, 1);
        x.old(0, 10, 0, 1);
        x.route(50, 51, 100, 1);
        for (int k = 0; k < 7; k++) x.take(1, 0);
        x.route(0, 1, 100, 1);
        x.take(1, 0);
        due(x.best(9999999, 0), 128);
        due(x.best(9999999, 2), 22);
        says("of like ones none at all: it costs nothing");
        x.set(0, 2, 0);
        for (int what = 0; what < 3; what++) due(x.best(9999999, what), 0);
    }

    private static void rates() {
        says("VESTRY y (0 .. 9) are the CELLS 10 y to 10 y + 9");
        LowFall x = new LowFall();
        x.set(9, 2, 1);
        x.set(10, 2, 2);
        x.set(99, 2, 4);
        due(x.share(700, 0), 100);
        due(x.share(700, 1), 200);
        due(x.share(700, 2), 0);
        due(x.share(700, 9), 400);
        due(x.share(700, 10), LowFall.NONE);
        due(x.share(700, -1), LowFall.NONE);
        says("each VESTRY the whole part; what is left, one by one, to those with the greatest remainders");
        int[][] due = {{0, 0, 0}, {0, 0, 1}, {0, 1, 1}, {0, 1, 2}, {1, 1, 2}, {1, 1, 3}, {1, 2, 3}, {1, 2, 4}};
        for (int sum = 0; sum < 8; sum++) { // sum / 7, 2 sum / 7, 4 sum / 7
            due(x.share(sum, 0), due[sum][0]);
            due(x.share(sum, 1), due[sum][1]);
            due(x.share(sum, 9), due[sum][2]);
        }
        x.set(9, 2, 2); // 2 and 3 of 5
        x.set(10, 2, 3);
        x.set(99, 2, 0);
        due(x.share(3, 0), 1); // 1 1/5, 1 4/5
        due(x.share(4, 0), 2); // 1 3/5, 2 2/5: by one fifth
        due(x.share(1, 1), 1); // 2/5, 3/5
        due(x.share(1, 0), 0);
        says("(of like ones the least)");
        for (int c = 0; c < 100; c++) x.set(c, 2, 3);
        for (int y = 0; y < 10; y++) {
            due(x.share(0, y), 0);
            due(x.share(1, y), y < 1 ? 1 : 0);
            due(x.share(9, y), y < 9 ? 1 : 0);
            due(x.share(10, y), 1);
            due(x.share(9999995, y), 999999 + (y < 5 ? 1 : 0));
        }
    }

    // ---- VII

    private static void tapes() {
        says("TAPES 0 .. 5 each hold nothing (at first), a row of bytes (sort 1), ... or an IMAGE (6)");
        LowFall x = new LowFall();
        for (int d = 0; d < 6; d++) due(x.clear(d), 0);
        due(x.clear(6), LowFall.NONE);
        due(x.clear(-1), LowFall.NONE);
        long[] least = {Byte.MIN_VALUE, Short.MIN_VALUE, Integer.MIN_VALUE, Long.MIN_VALUE, 1};
        long[] most = {Byte.MAX_VALUE, Short.MAX_VALUE, Integer.MAX_VALUE, Long.MAX_VALUE, 1};
        for (int sort = 1; sort <= 5; sort++) {
            int d = sort;
            due(x.tape(d, sort, 3), 3);
            x.put(d, 0, least[sort - 1]);
            x.put(d, 1, most[sort - 1]);
            due(x.at(d, 0), least[sort - 1]);
            due(x.at(d, 1), most[sort - 1]);
            due(x.at(d, 2), 0);
            if (sort < 4) { // a wrap-around to the other end
                x.put(d, 0, least[sort - 1] - 1);
                x.put(d, 1, most[sort - 1] + 1);
                due(x.at(d, 0), most[sort - 1]);
                due(x.at(d, 1), least[sort - 1]);
            }
            x.put(d, 2, 1L << 32);
            due(x.at(d, 2), sort < 4 ? 0 : sort == 4 ? 1L << 32 : 1);
        }
        x.keep(0);
        due(x.clear(0), 6);
        for (int d = 1; d < 6; d++) due(x.clear(d), d);
    }

    private static void refusalsOfTheHost() {
        says("The host's refusals (-11 to -16) since begin()");
        LowFall x = new LowFall();
        int[] answers = {x.back(0), x.tape(0, 2, 1), x.back(0), x.put(0, 1, 0), x.tape(0, 1, -1), x.keep(1), x.toss(1),
            x.lasts(0, 0), x.share(1, 0)};
        int[] due = {LowFall.NOTHING, 1, LowFall.CAST, LowFall.PLACE, LowFall.SIZE, 0, LowFall.THROWN, LowFall.ZERO, LowFall.ZERO};
        for (int k = 0; k < due.length; k++) due(answers[k], due[k]);
        due(x.count(18), 7);
        // No other refusal is one of the host's, nor a failure that is thrown to the caller.
        x.set(-1, 0, 0);
        x.take(1, 1);
        x.tape(0, 1, 0);
        x.tide(0);
        law(x, 0, "x");
        dueThrow(IllegalArgumentException.class, () -> x.at(6, 0));
        dueThrow(IllegalStateException.class, () -> x.at(4, 0));
        dueThrow(IllegalStateException.class, () -> x.house(0, 0));
        due(x.count(18), 7);
        x.begin();
        due(x.count(18), 0);
        x.back(4);
        due(x.count(18), 1);
        x.back(1);
        due(x.count(18), 1); // an image has none of them
    }
}
