/** What the tests share: answers that are due, texts that are fed. */
final class Check {
    static final int BAD = -1, STATE = -2, FULL = -3, NONE = -4;

    private int wrong = 0;
    private int asked = 0;
    private String where = "";

    void in(String name) {
        where = name;
    }

    void due(String call, long got, long want) {
        asked++;
        if (got != want) {
            wrong++;
            System.out.println(where + ": " + call + " answered " + got + ", due is " + want);
        }
    }

    /** Ends the test's run as the shared tests do. */
    void finish(String test) {
        System.out.println(test + ": " + asked + " answers, " + wrong + " not as due");
        if (wrong != 0 || asked == 0) {
            System.exit(1);
        }
    }

    static void feed(WeighedWhales x, String text) {
        for (int i = 0; i < text.length(); i++) {
            x.feed(text.charAt(i));
        }
    }

    static int tell(WeighedWhales x, String text) {
        feed(x, text);
        return x.text();
    }

    static WeighedWhales shore(String text) {
        WeighedWhales x = new WeighedWhales();
        if (tell(x, text) < 0) {
            throw new IllegalStateException("the test's text is refused: " + text + " fault " + x.fault());
        }
        return x;
    }

    /** Hours without work, by sheet 3. */
    static void idle(WeighedWhales x, int hours) {
        x.sheet(3, 0, 20);
        for (int i = 0; i < 20; i++) {
            x.lay(3, i, NONE);
        }
        for (int went = 0; went < hours; went += 20) {
            x.read(3, 0, 0, Math.min(20, hours - went));
        }
    }
}
