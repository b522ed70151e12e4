// What the tests by sentences share: the sentence that is looked at, the answers due to it, and some longer calls.
class Due {
    private static String sentence = "";
    private static int sentences = 0, looked = 0, wrong = 0;

    static void says(String ofTheDocument) {
        sentence = ofTheDocument;
        sentences++;
    }

    static void due(long got, long want) {
        looked++;
        if (got == want) return;
        wrong++;
        System.out.println(place() + " \"" + sentence + "\": " + got + " was answered, due is " + want);
    }

    static void dueThrow(Class<? extends RuntimeException> want, Runnable call) {
        Class<?> got = null;
        try {
            call.run();
        } catch (RuntimeException e) {
            got = e.getClass();
        }
        looked++;
        if (got == want) return;
        wrong++;
        System.out.println(place() + " \"" + sentence + "\": " + got + " was thrown, due is " + want);
    }

    private static String place() {
        for (StackTraceElement at : new Throwable().getStackTrace()) {
            if (at.getClassName().endsWith("Test")) return at.getFileName() + ":" + at.getLineNumber();
        }
        return "";
    }

    static void end(String name) {
        System.out.println(name + ": " + sentences + " sentences, " + looked + " answers, " + wrong + " not as due");
        if (wrong != 0) System.exit(1);
    }

    // ---- longer calls

    static void row(LowFall x, int d, int sort, long... elements) {
        x.tape(d, sort, elements.length);
        for (int i = 0; i < elements.length; i++) x.put(d, i, elements[i]);
    }

    static void text(LowFall x, int d, String bytes) {
        x.tape(d, 1, bytes.length());
        for (int i = 0; i < bytes.length(); i++) x.put(d, i, bytes.charAt(i));
    }

    static int law(LowFall x, int kind, String bytes) {
        text(x, 5, bytes);
        return x.law(kind, x.count(0) / 24, 5);
    }

    static int levels(LowFall x, long... levels) {
        row(x, 5, 1, levels);
        return x.tide(5);
    }

    static void days(LowFall x, int n) {
        for (int i = 0; i < n; i++) x.hours(24);
    }

    // A line that is laid in as many days as it takes, at most 20: 4 gangs and all bricks that it wants.
    static int lay(LowFall x, int a, int b, int z, int width, int cement) {
        x.route(a, b, z, 1);
        int line = x.take(width, cement);
        x.gangs(line, 4);
        int make = x.kiln(9999);
        for (int day = 0; day < 20 && x.lineOf(line, 0, 4) == -9; day++) x.hours(24);
        x.kiln(make);
        x.gangs(line, 0);
        return line;
    }
}
