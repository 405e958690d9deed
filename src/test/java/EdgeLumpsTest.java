/** The boundaries of promises 29 to 32: where a BEAST can strand, LUMPS, HOURS by a seed. */
public final class EdgeLumpsTest {
    private static final Check C = new Check();
    private static final String SHORE = "text sand 0 3;sand 1 2;sand 1 5;sand 2 4;tide 1 3 5 2;rot 2;gangs 2;"
        + "whale 0 9 2 4 6 1 0;whale 2 8 1 8 5 3 1;";
    private static final String LOW = "text sand 0 0;sand 0 0;sand 0 0;sand 0 0;sand 0 0;sand 0 0;tide 1 0;";

    public static void main(String[] args) {
        strandBounds();
        strandOnShores();
        strandWaters();
        strandAmongBeasts();
        luckBounds();
        luckInLowestTerms();
        luckOfCutAndLost();
        openNone();
        openOfSeveral();
        driftBounds();
        driftBySeeds();
        driftByItself();
        driftLoses();
        C.finish("EdgeLumpsTest");
    }

    private static void strandBounds() {
        Script.run(C, "29: n PARTS (1 to 3), HOUR h (0 to 998)", LOW, "strand(MIN, 0) = BAD", "strand(-1, 0) = BAD", "strand(0, 0) = BAD",
            "strand(1, 0) = 63", "strand(2, 0) = 31", "strand(3, 0) = 15", "strand(4, 0) = BAD", "strand(MAX, 0) = BAD", "strand(1, MIN) = BAD",
            "strand(1, -1) = BAD", "strand(1, 1) = 0", "strand(1, 2) = 63", "strand(1, 997) = 0", "strand(1, 998) = 63", "strand(3, 998) = 15",
            "strand(1, 999) = BAD", "strand(1, 1000) = BAD", "strand(1, MAX) = BAD", "strand(0, 999) = BAD");
    }

    private static void strandOnShores() {
        Script.run(C, "29: no PLACES", "text tide 9 0;", "strand(1, 0) = 0", "strand(3, 0) = 0", "strand(4, 0) = BAD", "strand(1, 999) = BAD");
        Script.run(C, "29: one PLACE", "text sand 0 0;tide 1 0;", "strand(1, 0) = 1", "strand(2, 0) = 0", "strand(3, 0) = 0");
        Script.run(C, "29: two PLACES", "text sand 0 0;sand 0 0;tide 1 0;", "strand(1, 0) = 3", "strand(2, 0) = 1", "strand(3, 0) = 0");
        Script.run(C, "29: three PLACES", "text sand 0 0;sand 0 0;sand 0 0;tide 1 0;", "strand(2, 0) = 3", "strand(3, 0) = 1");
    }

    private static void strandWaters() {
        Script.run(C, "29: LEVEL at MARK is not WET", "text sand 0 1;sand 0 0;tide 1 0;", "strand(1, 0) = 2", "strand(2, 0) = 0");
        Script.run(C, "29: and not in the next one", "text sand 0 0;sand 0 4;tide 5 1 0;", "strand(1, 0) = 2", "strand(2, 0) = 1",
            "strand(1, 1) = 1", "strand(2, 1) = 0", "strand(1, 2) = 0");
        Script.run(C, "29: PLACES that stay WET", "text sand 0 4;sand 0 0;sand 0 0;sand 0 0;sand 0 4;tide 5 1;", "strand(1, 0) = 17", "strand(2, 0) = 9",
            "strand(3, 0) = 5", "strand(1, 1) = 0", "strand(2, 1) = 0", "strand(3, 1) = 0");
        Script.run(C, "29: the next one of the last LEVEL is the first", "text sand 0 0;sand 0 2;tide 0 1 2 3;", "strand(1, 2) = 0",
            "strand(1, 3) = 3", "strand(2, 3) = 1", "strand(1, 995) = 3", "strand(1, 998) = 0");
        Script.run(C, "29: one LEVEL alone never falls", "text sand 0 0;tide 9;", "strand(1, 0) = 0", "strand(1, 998) = 0");
    }

    private static void strandAmongBeasts() {
        Script.run(C, "29: on no PLACE of another BEAST that is not LOST",
            "text sand 0 0;sand 0 0;sand 0 9;sand 0 0;sand 0 0;sand 0 0;tide 0 1;whale 1 1 2 0 1 1 0;whale 4 1 1 0;", "strand(1, 1) = 41",
            "strand(2, 1) = 0", "strand(3, 1) = 0", "go(NONE, NONE) = 0", "beast(1, 2) = 1", "beast(0, 2) = 0", "strand(1, 1) = 57",
            "strand(2, 1) = 24", "strand(3, 1) = 8", "strand(3, 0) = 0", "mark(2, 0) = 9", "beast(0, 2) = 1", "strand(1, 1) = 63",
            "strand(2, 1) = 31", "strand(3, 1) = 15");
    }

    private static void luckBounds() {
        Script.run(C, "30: no such BEAST", "luck(0, 0) = BAD", "luck(-1, 1) = BAD");
        Script.run(C, "30: what 0, 1", SHORE, "luck(MIN, 0) = BAD", "luck(-1, 0) = BAD", "luck(0, 0) = 1", "luck(0, 1) = 2", "luck(1, 0) = 1",
            "luck(1, 1) = 1", "luck(2, 0) = BAD", "luck(2, 1) = BAD", "luck(MAX, 0) = BAD", "luck(0, MIN) = BAD", "luck(0, -1) = BAD",
            "luck(0, 2) = BAD", "luck(0, MAX) = BAD", "luck(2, 2) = BAD");
    }

    private static void luckIs(String lumps, int up, int down) {
        String[] all = lumps.split(" ");
        StringBuilder whale = new StringBuilder("text sand 0 9;sand 0 9;sand 0 9;whale 0");
        for (String lump : all) {
            whale.append(" 1 1 ").append(lump);
        }
        Script.run(C, "30: lowest terms of LUMPS " + lumps, whale + ";", "luck(0, 0) = " + up, "luck(0, 1) = " + down);
    }

    private static void luckInLowestTerms() {
        int[][] one = {{0, 1}, {1, 8}, {1, 4}, {3, 8}, {1, 2}, {5, 8}, {3, 4}, {7, 8}, {1, 1}};
        for (int lump = 0; lump <= 8; lump++) {
            luckIs("" + lump, one[lump][0], one[lump][1]);
        }
        luckIs("0 0", 0, 1);
        luckIs("0 0 0", 0, 1);
        luckIs("8 8 8", 1, 1);
        luckIs("0 8", 1, 1);
        luckIs("8 0 0", 1, 1);
        luckIs("1 1", 15, 64);
        luckIs("7 7", 63, 64);
        luckIs("1 1 1", 169, 512);
        luckIs("7 7 7", 511, 512);
        luckIs("4 4 4", 7, 8);
        luckIs("4 4", 3, 4);
        luckIs("2 2", 7, 16);
        luckIs("0 0 1", 1, 8);
        luckIs("6 6 6", 63, 64);
        luckIs("1 2 3", 151, 256);
    }

    private static void luckOfCutAndLost() {
        Script.run(C, "30: each PART that is not CUT", "text sand 0 9;sand 0 9;sand 0 9;whale 0 1 1 4 1 2 2 1 1 8;", "luck(0, 0) = 1",
            "luck(0, 1) = 1", "go(2, NONE) = 1", "luck(0, 0) = 5", "luck(0, 1) = 8", "go(1, NONE) = 0", "luck(0, 0) = 5", "go(0, NONE) = 1",
            "luck(0, 0) = 1", "luck(0, 1) = 4", "go(1, NONE) = 1", "count(4) = 3", "luck(0, 0) = 0", "luck(0, 1) = 1", "lump(1, 8) = 2",
            "luck(0, 0) = 0", "luck(0, 1) = 1");
        Script.run(C, "30: its BEAST not LOST", "text sand 0 3;tide 0 4;whale 0 1 3 8;", "luck(0, 0) = 1", "luck(0, 1) = 1",
            "go(0, NONE) = 0", "beast(0, 2) = 1", "luck(0, 0) = 0", "luck(0, 1) = 1");
        Script.run(C, "30: one that is LOST, others that are not", "text sand 0 3;sand 0 9;sand 0 3;tide 0 4;whale 0 1 3 4;whale 1 1 3 4;whale 2 1 3 4;",
            "go(NONE, NONE) = 0", "luck(0, 0) = 0", "luck(0, 1) = 1", "luck(1, 0) = 1", "luck(1, 1) = 2", "luck(2, 0) = 0", "luck(2, 1) = 1");
        Script.run(C, "30: WET or not", "text sand 0 3;sand 0 9;tide 0 4;whale 0 1 3 4 1 3 0;", "go(NONE, NONE) = 0", "part(0, 4) = 0",
            "luck(0, 0) = 1", "luck(0, 1) = 2");
    }

    private static void openNone() {
        Script.run(C, "31: NONE: no BEASTS", "open() = NONE");
        Script.run(C, "31: NONE: all CUT", "text sand 0 9;whale 0 1 1 8;", "open() = 0", "go(0, NONE) = 1", "open() = NONE");
        Script.run(C, "31: NONE: all LOST", "text sand 0 3;tide 4;whale 0 1 1 8;", "open() = NONE");
        Script.run(C, "31: NONE: those that are left are WET", "text sand 0 3;sand 0 9;tide 4;whale 0 1 1 8 1 1 0;", "open() = 1",
            "go(1, NONE) = 1", "open() = NONE");
        Script.run(C, "31: LUMP 0 is as good as any", "text sand 0 9;sand 0 9;whale 1 1 3 0;whale 0 1 1 0;", "open() = 0", "lump(10, 1) = 0",
            "open() = 10");
    }

    private static void openIs(String first, String second, int due) {
        Script.run(C, "31: LUMP for each HOUR of WORK, " + first + " or " + second,
            "text sand 0 9;sand 0 9;whale 0 1 " + first + ";whale 1 1 " + second + ";", "open() = " + due);
    }

    private static void openOfSeveral() {
        openIs("1 1", "2 2", 0);
        openIs("2 2", "1 1", 0);
        openIs("3 3", "1 1", 0);
        openIs("3 8", "1 2", 0);
        openIs("3 8", "1 3", 10);
        openIs("3 8", "2 5", 0);
        openIs("3 7", "2 5", 10);
        openIs("2 5", "3 7", 0);
        openIs("2 5", "3 8", 10);
        openIs("1 8", "1 8", 0);
        openIs("1 7", "1 8", 10);
        openIs("3 1", "2 1", 10);
        openIs("2 1", "3 1", 0);
        openIs("1 0", "3 1", 10);
        String[] three = {"1 5 3", "1 3 5", "5 1 3", "3 1 5", "3 5 1", "5 3 1", "1 1 1", "1 3 3"};
        int[] due = {1, 2, 0, 2, 1, 0, 0, 1};
        for (int i = 0; i < three.length; i++) {
            Script.run(C, "31: the greatest of LUMPS " + three[i], "text sand 0 9;sand 0 9;sand 0 9;whale 0 1 1 " + three[i].charAt(0) + " 1 1 "
                + three[i].charAt(2) + " 1 1 " + three[i].charAt(4) + ";", "open() = " + due[i]);
        }
        Script.run(C, "31: by WORK that is left", "text sand 0 9;sand 0 9;whale 0 1 1 3;whale 1 1 3 8;", "open() = 0", "go(10, NONE) = 0",
            "open() = 10", "go(0, NONE) = 1", "open() = 10");
        Script.run(C, "31: in HOUR", "text sand 0 2;sand 0 9;tide 3 0;whale 0 1 1 8 1 3 1;", "open() = 1", "go(NONE, NONE) = 0", "open() = 0");
        Script.run(C, "31: the last PART of the last BEAST", "text sand 0 9;sand 0 9;sand 0 9;sand 0 9;sand 0 9;"
            + "whale 0 1 1 1;whale 1 1 1 1;whale 2 1 1 1 1 1 1 1 1 2;", "open() = 22");
    }

    private static void driftBounds() {
        Script.run(C, "32: n HOURS (1 to 60), what 0, 1", "text sand 0 9;sand 0 9;sand 0 9;rot 9;whale 0 1 1 0 2 1 0 4 1 0;",
            "drift(0, MIN, 0) = BAD", "drift(0, -1, 0) = BAD", "drift(0, 0, 0) = BAD", "drift(0, 0, 1) = BAD", "drift(0, 1, 0) = 1",
            "drift(0, 60, 0) = 7", "drift(0, 61, 0) = BAD", "drift(0, 61, 1) = BAD", "drift(0, MAX, 0) = BAD", "drift(0, 1, MIN) = BAD",
            "drift(0, 1, -1) = BAD", "drift(0, 1, 1) = 0", "drift(0, 60, 1) = 0", "drift(0, 1, 2) = BAD", "drift(0, 1, MAX) = BAD",
            "drift(0, 0, 2) = BAD");
        Script.run(C, "32: nothing there", "drift(0, 1, 0) = 0", "drift(5, 60, 0) = 0", "drift(5, 60, 1) = 0", "drift(5, 61, 1) = BAD");
    }

    /** What is won in 1 HOUR, in 2 and so on. */
    private static void drifts(String text, int seed, int... due) {
        String[] rows = {text};
        for (int i = 0; i < due.length; i++) {
            rows = Script.join(rows, "drift(" + seed + ", " + (i + 1) + ", 0) = " + due[i]);
        }
        Script.run(C, "32: seed " + seed, rows);
    }

    /** Bits 16 to 30 were worked out by hand from the document's sum. */
    private static void driftBySeeds() {
        String three = "text sand 0 9;sand 0 9;sand 0 9;rot 9;whale 0 1 1 0 2 1 0 4 1 0;";
        // 0, 21468, 9988 by 4, 3, 2: the first that is left each time
        drifts(three, 0, 1, 3, 7, 7);
        drifts(three, Integer.MIN_VALUE, 1, 3, 7, 7);
        // 15929 by 4: 1; 4409 by 3: 2, none; 9862 by 3: 1; 26718 by 2: 0
        drifts(three, -1, 2, 2, 6, 7);
        drifts(three, Integer.MAX_VALUE, 2, 2, 6, 7);
        // 17747 by 4: 3, none; 7107: 3, none; 10365: 1; 8312 by 3: 2, none; 20622 by 3: 0; 15796 by 2: 0
        drifts(three, 3, 0, 0, 2, 2, 3, 7);
        String two = "text sand 0 9;sand 0 9;rot 9;gangs 2;whale 0 1 1 0 2 1 0;";
        // 21381 by 3: 0, though bit 31 is set; 908: 2, none; 19564: 1
        drifts(two, 11, 1);
        drifts(two, 2, 0);
        drifts(two, 7, 2);
        String wet = "text sand 0 0;sand 0 9;sand 0 9;tide 1;rot 9;whale 0 1 1 0 2 1 0 4 1 0;";
        // of those that can be WORKED alone: 0 by 3 is the PART behind the WET one
        drifts(wet, 0, 2, 6);
    }

    private static void driftByItself() {
        Script.run(C, "32: by itself", SHORE, "drift(0, 60, 0)", "rule(6) = 0", "part(0, 1) = 2", "part(1, 1) = 1", "part(10, 1) = 1",
            "part(11, 1) = 3", "has(0) = 0", "has(1) = 0", "count(4) = 0", "count(5) = 0");
        Script.run(C, "32: WORK of more than one HOUR", "text sand 0 9;rot 1;whale 0 9 3 0;",
            // 0, 21468, 9988 by 2 are all 0: it is CUT in HOUR 2
            "drift(0, 2, 0) = 0", "drift(0, 3, 0) = 7", "go(NONE, NONE) = 0", "drift(0, 3, 0) = 6");
    }

    private static void driftLoses() {
        Script.run(C, "32: BEASTS that are LOST then", "text sand 0 9;sand 0 1;sand 0 1;tide 0 0 2;whale 0 5 1 0;whale 1 3 3 0;whale 2 3 3 0;",
            "drift(0, 1, 1) = 0", "drift(0, 2, 1) = 2", "drift(0, 60, 1) = 2", "count(5) = 0", "go(NONE, NONE) = 0", "drift(0, 1, 1) = 2",
            "go(NONE, NONE) = 0", "drift(0, 1, 1) = 2", "count(5) = 2");
        String[] last = Script.join(Script.join(new String[] {"text sand 0 9;tide 0 0 0 0 0 6;whale 0 5 3 0;"}, Script.idle(999)),
            "mark(0, 5) = 9");
        Script.run(C, "32: n HOURS, when HOUR is the last that go() comes to", Script.join(last, "go(NONE, NONE) = FULL", "drift(0, 1, 1) = 0",
            "drift(0, 2, 1) = 1", "drift(0, 60, 1) = 1", "drift(0, 60, 0) = 0", "rule(6) = 999", "count(5) = 0"));
    }
}
