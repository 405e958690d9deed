/** The boundaries of promises 21 to 23: the best ROW. */
public final class EdgeBestTest {
    private static final Check C = new Check();
    private static final String SHORE = "text sand 0 3;sand 1 2;sand 1 5;sand 2 4;tide 1 3 5 2;rot 2;gangs 2;"
        + "whale 0 9 2 4 6 1 0;whale 2 8 1 8 5 3 1;";
    private static final String ALL = "text sand 0 9;sand 0 9;sand 0 9;sand 0 9;sand 0 9;sand 0 9;rot 9;gangs 2;"
        + "whale 0 9 3 0 9 3 0 9 3 0;whale 3 9 3 0 9 3 0 9 3 0;";

    public static void main(String[] args) {
        hoursOfTheRow();
        whatOfTheRow();
        rowOfNothing();
        rowOfAll();
        rowOfOneGang();
        noneIsLast();
        ofSeveralTheFirst();
        cutBeforeTheTide();
        lostAhead();
        fromHourOn();
        askedAgain();
        worthBounds();
        worthOfBeasts();
        saltedBounds();
        saltedByRot();
        C.finish("EdgeBestTest");
    }

    /** Rows that ask for a whole ROW of n HOURS. */
    private static String[] row(int n, String... parts) {
        String[] rows = {};
        for (int i = 0; i < parts.length; i++) {
            rows = Script.join(rows, "best(" + n + ", " + (10 + i) + ") = " + parts[i]);
        }
        return rows;
    }

    private static void rows(String sentence, String text, int n, int won, String... parts) {
        Script.run(C, sentence, Script.join(new String[] {text, "best(" + n + ", 0) = " + won}, row(n, parts)));
    }

    private static void hoursOfTheRow() {
        Script.run(C, "21: n HOURS (0 to 6)", SHORE, "best(MIN, 0) = BAD", "best(-1, 0) = BAD", "best(0, 0) = 0", "best(1, 0) = 14",
            "best(2, 0) = 23", "best(3, 0) = 23", "best(6, 0) = 26", "best(7, 0) = BAD", "best(MAX, 0) = BAD", "best(7, 10) = BAD",
            "best(-1, 10) = BAD", "best(-1, 1) = BAD", "best(7, 1) = BAD");
    }

    private static void whatOfTheRow() {
        for (int n = 0; n <= 6; n++) {
            Script.run(C, "21: BAD (also k no less than n), n " + n, SHORE, "best(" + n + ", MIN) = BAD", "best(" + n + ", -1) = BAD",
                "best(" + n + ", 1) = BAD", "best(" + n + ", 9) = BAD", "best(" + n + ", " + (10 + 2 * n) + ") = BAD",
                "best(" + n + ", " + (11 + 2 * n) + ") = BAD", "best(" + n + ", 22) = BAD", "best(" + n + ", 23) = BAD",
                "best(" + n + ", MAX) = BAD");
        }
        Script.run(C, "21: the last HOUR of each", SHORE, "best(1, 10) = 1", "best(1, 11) = 10", "best(2, 12) = 0", "best(2, 13) = 10",
            "best(3, 14) = NONE", "best(3, 15) = NONE");
    }

    private static void rowOfNothing() {
        rows("21: no BEASTS", "text sand 0 9;gangs 2;", 2, 0, "NONE", "NONE", "NONE", "NONE");
        rows("21: all WET", "text sand 0 1;sand 0 9;tide 2;whale 0 9 1 0 0 3 0;", 1, 0, "1", "NONE");
        Script.run(C, "21: all CUT", "text sand 0 9;whale 0 9 1 0;", "go(0, NONE) = 9", "best(1, 0) = 0", "best(1, 10) = NONE",
            "best(6, 20) = NONE", "best(6, 21) = NONE");
        Script.run(C, "21: all LOST", "text sand 0 1;tide 2 0;whale 0 9 1 0;", "best(2, 0) = 0", "best(2, 10) = NONE", "best(2, 12) = NONE");
        Script.run(C, "21: nothing is done", ALL, "best(6, 0) = 36", "rule(6) = 0", "part(0, 1) = 3", "has(0) = 0", "count(4) = 0");
    }

    private static void rowOfAll() {
        rows("21: six PARTS, two GANGS", ALL, 6, 36, "0", "1", "0", "1", "0", "1", "2", "10", "2", "10", "2", "10");
        rows("21: 5 HOURS are enough for three of them", ALL, 5, 27, "0", "1", "0", "1", "0", "2", "1", "2", "2", "10");
        rows("21: 4 HOURS are not", ALL, 4, 18, "0", "1", "0", "1", "0", "1", "2", "10");
        rows("21: 2 HOURS win nothing, by the first ROW", ALL, 2, 0, "0", "1", "0", "1");
        rows("21: as many as can be CUT in six HOURS", "text sand 0 9;sand 0 9;sand 0 9;sand 0 9;sand 0 9;sand 0 9;rot 9;gangs 2;"
            + "whale 0 9 2 0 9 2 0 9 2 0;whale 3 9 2 0 9 2 0 9 2 0;", 6, 54, "0", "1", "0", "1", "2", "10", "2", "10", "11", "12", "11", "12");
    }

    private static void rowOfOneGang() {
        Script.run(C, "21: NONE for the second of one GANG", Script.join(new String[] {ALL, "gangs(1) = 2", "best(6, 0) = 18"},
            row(6, "0", "NONE", "0", "NONE", "0", "NONE", "1", "NONE", "1", "NONE", "1", "NONE")));
    }

    private static void noneIsLast() {
        rows("Terms 2: none last in both", "text sand 0 0;sand 0 9;tide 1 0;gangs 2;whale 0 5 1 0 5 1 0;", 3, 10, "1", "NONE", "0", "NONE",
            "NONE", "NONE");
        rows("Terms 2: the other one is WET in HOUR 1", "text sand 0 9;sand 0 0;tide 0 1;gangs 2;whale 0 3 3 0 3 3 0;", 4, 3, "0", "1", "0", "NONE",
            "0", "1", "NONE", "NONE");
        rows("Terms 2: the other one, of WORTH 0, is WET in HOUR 1", "text sand 0 9;sand 0 0;tide 0 1;gangs 2;whale 0 3 3 0 0 3 0;", 4, 3, "0", "1",
            "0", "NONE", "0", "1", "NONE", "NONE");
        rows("Terms 2: none last of one GANG", "text sand 0 9;whale 0 0 1 0;", 2, 0, "0", "NONE", "NONE", "NONE");
        rows("Terms 2: work that wins nothing is ahead of none", "text sand 0 9;sand 0 9;gangs 2;whale 0 5 1 0 0 3 0;", 2, 5, "0", "1", "1",
            "NONE");
        rows("Terms 2: work that comes to no end is ahead of none", "text sand 0 9;sand 0 9;gangs 2;whale 0 5 1 0 9 3 0;", 1, 5, "0", "1");
    }

    private static void ofSeveralTheFirst() {
        rows("Terms 2: by NUMBERS", "text sand 0 9;sand 0 9;sand 0 9;whale 2 5 1 0;whale 0 5 1 0 5 1 0;", 2, 10, "0", "NONE", "10", "NONE");
        rows("Terms 2: by the lesser NUMBER, then by the other one", "text sand 0 9;sand 0 9;sand 0 9;gangs 2;whale 0 5 1 0;whale 1 5 1 0 5 1 0;",
            1, 10, "0", "10");
        rows("Terms 2: the first by HOURS, though a later one is less", "text sand 0 9;sand 0 9;rot 9;whale 0 4 2 0 5 1 0;", 3, 9, "0", "NONE",
            "0", "NONE", "1", "NONE");
        rows("Terms 2: wins most ahead of the first", "text sand 0 9;sand 0 9;rot 1;whale 0 4 1 0 5 1 0;", 1, 5, "1", "NONE");
        rows("Terms 2: what rots is 1 less for both", "text sand 0 9;sand 0 9;rot 1;whale 0 4 1 0 5 1 0;", 2, 8, "0", "NONE", "1", "NONE");
        rows("Terms 2: what is worth 0 already does not rot", "text sand 0 9;sand 0 9;rot 1;whale 0 1 1 0 5 1 0;", 2, 5, "0", "NONE", "1", "NONE");
    }

    private static void cutBeforeTheTide() {
        rows("Terms 2: it FLOATS in HOUR 1", "text sand 0 3;tide 0 4;whale 0 5 2 0;", 3, 0, "0", "NONE", "NONE", "NONE", "NONE", "NONE");
        rows("Terms 2: it is CUT in HOUR 0", "text sand 0 3;tide 0 4;whale 0 5 1 0;", 3, 5, "0", "NONE", "NONE", "NONE", "NONE", "NONE");
        rows("Terms 2: LEVEL at its MARK", "text sand 0 4;tide 0 4;whale 0 5 2 0;", 3, 5, "0", "NONE", "0", "NONE", "NONE", "NONE");
        rows("Terms 2: one PLACE stays dry", "text sand 0 3;sand 0 4;tide 0 4;whale 0 5 2 0 1 1 0;", 3, 6, "0", "NONE", "1", "NONE", "0", "NONE");
    }

    private static void lostAhead() {
        String[] parts = {"0", "10", "20"};
        for (int b = 0; b < 3; b++) {
            int[] marks = {9, 9, 9};
            marks[b] = 4;
            Script.run(C, "Terms 2: BEAST " + b + " alone is LOST, and dry again", "text sand 0 " + marks[0] + ";sand 0 " + marks[1] + ";sand 0 "
                + marks[2] + ";tide 5 0;rot 9;whale 0 5 1 0;whale 1 5 1 0;whale 2 5 1 0;", "go(NONE, NONE) = 0", "beast(" + b + ", 2) = 1",
                "count(5) = 1", "best(1, 10) = " + parts[b == 0 ? 1 : 0], "best(2, 12) = " + parts[b == 2 ? 1 : 2], "best(6, 0) = 10",
                "worth(0, 6) = " + (b == 0 ? 0 : 5), "worth(1, 6) = " + (b == 1 ? 0 : 5), "worth(2, 6) = " + (b == 2 ? 0 : 5));
        }
    }

    private static void fromHourOn() {
        Script.run(C, "21: HOUR k of the ROW is k behind HOUR", Script.join(new String[] {
            "text sand 0 0;sand 0 9;tide 1 0;gangs 2;rot 1;whale 0 5 1 0 5 1 0;", "go(NONE, NONE) = 0", "best(1, 0) = 8"}, row(1, "0", "1")));
        Script.run(C, "21: LEVELS wrap around in a ROW", Script.join(new String[] {
            "text sand 0 9;tide 9 0;whale 0 5 3 0;", "go(NONE, NONE) = 0", "mark(0, 8) = 9", "best(3, 0) = 0"},
            row(3, "0", "NONE", "NONE", "NONE", "NONE", "NONE")));
        String[] late = Script.join(new String[] {"text sand 0 9;rot 9;whale 0 9 2 0;"}, Script.idle(79));
        Script.run(C, "21: the last HOUR in which it is worth anything", Script.join(late, "best(1, 0) = 0", "best(2, 0) = 1", "best(3, 0) = 1",
            "go(NONE, NONE) = 0", "best(2, 0) = 0", "best(6, 0) = 0", "best(6, 10) = 0", "best(6, 12) = 0", "best(6, 14) = NONE"));
        String[] last = Script.join(Script.join(new String[] {"text sand 0 9;tide 0 0 0 0 0 6;whale 0 5 3 0;"}, Script.idle(999)),
            "mark(0, 5) = 9", "go(0, NONE) = FULL", "best(6, 0) = 0");
        Script.run(C, "21: n HOURS, when HOUR is the last that go() comes to", Script.join(last,
            row(6, "0", "NONE", "0", "NONE", "NONE", "NONE", "NONE", "NONE", "NONE", "NONE", "NONE", "NONE")));
    }

    private static void askedAgain() {
        Script.run(C, "21: asked again behind a change", "text sand 0 9;sand 0 9;sand 0 9;tide 3;rot 9;whale 0 5 1 0 4 1 0;whale 2 3 1 0;",
            "best(1, 0) = 5", "best(2, 0) = 9", "mark(0, 2) = 9", "best(1, 0) = 4", "best(1, 10) = 1", "best(2, 0) = 7", "mark(1, 2) = 9",
            "beast(0, 2) = 1", "best(1, 0) = 3", "best(1, 10) = 10", "best(6, 0) = 3", "go(10, NONE) = 3", "best(6, 0) = 0", "best(1, 10) = NONE");
        Script.run(C, "21: asked again by other GANGS, another ROT, behind IMAGES", ALL, "best(3, 0) = 18", "gangs(1) = 2", "best(3, 0) = 9",
            "gangs(2) = 1", "best(3, 0) = 18", "rot(1) = 9", "best(3, 0) = 14", "keep(0) = 0", "go(0, 1) = 0", "go(0, 1) = 0", "best(1, 0) = 14",
            "go(0, 1) = 14", "best(1, 0) = 0", "best(3, 0) = 8", "back(0) = 0", "best(1, 0) = 0", "best(3, 0) = 14", "rot(9) = 1", "best(3, 0) = 18");
        Script.run(C, "22, 23: asked between", SHORE, "best(3, 0) = 23", "worth(0, 3) = 15", "best(3, 0) = 23", "salted(6) = 5", "best(3, 10) = 0",
            "best(3, 11) = 1", "worth(1, 6) = 11", "best(3, 13) = 10", "best(6, 0) = 26");
    }

    private static void worthBounds() {
        Script.run(C, "22: a BEAST, n HOURS (0 to 6)", SHORE, "worth(MIN, 3) = BAD", "worth(-1, 3) = BAD", "worth(2, 3) = BAD",
            "worth(MAX, 3) = BAD", "worth(0, MIN) = BAD", "worth(0, -1) = BAD", "worth(0, 0) = 0", "worth(1, 0) = 0", "worth(0, 1) = 6",
            "worth(1, 1) = 8", "worth(0, 3) = 15", "worth(1, 6) = 11", "worth(0, 7) = BAD", "worth(0, MAX) = BAD", "worth(2, 7) = BAD",
            "best(6, 0) = 26", "beast(0, 1) = 2");
        Script.run(C, "22: no such BEAST", "worth(0, 0) = BAD", "worth(-1, 0) = BAD");
    }

    private static void worthOfBeasts() {
        Script.run(C, "22: the only one", "text sand 0 9;whale 0 7 1 0;", "worth(0, 1) = 7", "worth(0, 6) = 7", "worth(1, 6) = BAD");
        Script.run(C, "22: of three", "text sand 0 9;sand 0 9;sand 0 9;rot 9;whale 0 7 1 0;whale 1 5 1 0;whale 2 6 1 0;", "worth(0, 1) = 1",
            "worth(1, 1) = 0", "worth(2, 1) = 0", "worth(2, 2) = 1", "worth(0, 2) = 2", "worth(1, 3) = 5", "worth(2, 3) = 6", "worth(0, 3) = 7",
            "worth(3, 3) = BAD");
        Script.run(C, "22: one that is LOST", SHORE, "go(NONE, NONE) = 0", "go(NONE, NONE) = 0", "beast(0, 2) = 1", "worth(0, 6) = 0");
        Script.run(C, "22: one that is CUT", "text sand 0 9;sand 0 9;whale 0 7 1 0;whale 1 5 1 0;", "go(0, NONE) = 7", "worth(0, 6) = 0",
            "worth(1, 1) = 5");
    }

    private static void saltedBounds() {
        Script.run(C, "23: n HOURS (0 to 6)", SHORE, "salted(MIN) = BAD", "salted(-1) = BAD", "salted(0) = 1", "salted(1) = 1", "salted(2) = 2",
            "salted(3) = 2", "salted(6) = 5", "salted(7) = BAD", "salted(MAX) = BAD", "rule(4) = 2", "rot(9) = 2", "salted(3) = 2", "rot(1) = 9",
            "salted(6) = 5");
    }

    private static void saltedByRot() {
        int[][] all = {{0, 1}, {1, 2}, {2, 3}, {3, 4}, {4, 5}, {5, 6}, {6, 7}, {7, 8}, {8, 9}, {9, 5}, {17, 9}, {18, 7}, {81, 1}, {82, 1}};
        for (int[] one : all) {
            Script.run(C, "23: the least ROT in HOUR " + one[0], Script.join(Script.join(new String[] {"text sand 0 9;rot 9;whale 0 9 1 0;"},
                Script.idle(one[0])), "salted(1) = " + one[1], "salted(0) = 1"));
        }
        Script.run(C, "23: WORTH 0", "text sand 0 9;whale 0 0 1 0;", "go(NONE, NONE) = 0", "salted(6) = 1");
    }
}
