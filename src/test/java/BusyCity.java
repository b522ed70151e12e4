// A city where there is something of all, and all that can be asked of it in one text.
final class BusyCity {
    static LowFall made() {
        LowFall x = new LowFall();
        make(x);
        return x;
    }

    static void make(LowFall x) {
        x.set(0, 2, 6000);
        x.set(0, 3, 0);
        x.set(2, 2, 150);
        x.set(1, 5, 1);
        x.set(33, 4, 1);
        x.set(34, 2, 900);
        x.old(0, 1, 90, 1);
        x.old(34, 33, 80, 2);
        x.set(43, 2, 300);
        x.old(43, 33, 80, 2);
        x.set(10, 2, 50);
        x.set(10, 3, 0);
        x.map(0, 1, 90);
        x.map(34, 24, 70);
        Due.levels(x, 3, -2, 5);
        Due.law(x, 1, "p>99");
        x.rain(2);
        x.lift(20, 21, 5, 9);
        x.stop(20, true);
        x.lift(60, 61, 3, 1);
        x.out(34, 20, 3, 9);
        x.kiln(100);
        x.bridge(7);
        x.route(2, 0, 60, 1);
        x.take(2, 1);
        x.gangs(0, 3);
        x.route(50, 51, 101, 1);
        x.take(1, 0);
        x.gangs(1, 1);
        x.hours(74);
        x.map(34, 35, 88);
        x.gangs(0, 2);
        x.keep(0);
        Due.row(x, 1, 1, 5, -6);
        Due.row(x, 2, 3, 7, 8, 9);
        Due.row(x, 3, 5, 1, 0);
        Due.text(x, 5, "h>5");
        x.route(60, 62, 90, 1);
    }

    // Another one, in which nothing is as in the first but LAWS, THE TIDE and THE ROUTE.
    static void makeOther(LowFall x) {
        for (int cell : new int[] {0, 2, 34, 51}) {
            x.set(cell, 0, 120);
            x.set(cell, 1, 2);
            x.set(cell, 2, 7000);
            x.set(cell, 3, 9);
            x.old(cell, cell + 10, 33, 3);
            x.map(cell, cell + 10, 44);
        }
        x.set(34, 5, 1);
        Due.levels(x, 3, -2, 5);
        Due.law(x, 1, "p>99");
        x.rain(9);
        x.lift(51, 0, 9, 99);
        x.lift(20, 10, 7, 50);
        x.out(34, 300, 7, 4);
        x.out(70, 9, 1, 4);
        x.kiln(200);
        x.bridge(99);
        x.route(51, 34, 80, 1);
        x.take(3, 0);
        x.gangs(0, 4);
        x.take(3, 0);
        x.hours(96);
        x.kiln(2000);
        x.hours(144);
        x.bad(0, 2, true);
        x.set(1, 4, 1);
        x.set(51, 4, 1);
        x.hours(7);
        x.route(60, 62, 90, 1);
    }

    static String look(LowFall x) {
        StringBuilder seen = new StringBuilder();
        for (int what = 0; what <= 17; what++) seen.append(x.count(what)).append(' ');
        for (int cell : new int[] {0, 2, 34, 51}) for (int what = 0; what <= 16; what++) seen.append(x.of(cell, what)).append(' ');
        for (int cell : new int[] {0, 34}) {
            for (int day : new int[] {0, 4999}) seen.append(x.mapOf(cell, 0, day)).append(' ').append(x.mapOf(cell, 1, day)).append(' ');
        }
        for (int i = 0; i < 4; i++) seen.append(x.way(i)).append(' ').append(x.level(i)).append(' ');
        for (int kind = 0; kind < 3; kind++) seen.append(x.inForce(kind, 4999)).append(' ');
        for (int line = 0; line < Math.min(2, x.count(15)); line++) {
            for (int i = 0; i < x.size(line) && i < 3; i++) for (int what = 0; what <= 6; what++) seen.append(x.lineOf(line, i, what)).append(' ');
        }
        for (int what = 0; what < 2; what++) seen.append(asked(x, 34, what)).append(asked(x, 20, 2 + what))
            .append(asked(x, 60, 2 + what)).append(asked(x, 70, what));
        for (int d = 0; d < 6; d++) seen.append(x.toss(d)).append(' ');
        for (int d = 1; d < 6; d++) for (int i = 0; i < 4; i++) seen.append(rowAt(x, d, i));
        seen.append(x.cutOff()).append(' ').append(x.best(9999999, 2)).append(' ').append(x.size(0)).append(' ');
        x.hours(24); // what can't be asked is seen by what it does
        for (int what = 0; what <= 17; what++) seen.append(x.count(what)).append(' ');
        seen.append(x.gangs(0, 4)).append(' ').append(x.kiln(9999)).append(' ').append(x.rain(1)).append(' ').append(x.bridge(3)).append(' ');
        x.stop(20, false);
        x.hours(240);
        for (int what = 0; what <= 17; what++) seen.append(x.count(what)).append(' ');
        for (int what = 6; what <= 16; what++) seen.append(x.of(21, what)).append(' ');
        for (int i = 0; i < 3; i++) seen.append(x.bears(0, i)).append(' ');
        for (int d = 0; d < 6; d++) seen.append(x.clear(d)).append(' ');
        return seen.toString();
    }

    private static String asked(LowFall x, int cell, int what) {
        try {
            return x.house(cell, what) + " ";
        } catch (IllegalStateException e) {
            return "none ";
        }
    }

    private static String rowAt(LowFall x, int d, int i) {
        try {
            return x.at(d, i) + " ";
        } catch (IllegalStateException e) {
            return "none ";
        }
    }
}
