/** The boundaries of promises 6 to 16: what there is, what is changed. */
public final class EdgeShoreTest {
    private static final Check C = new Check();
    private static final String SHORE = "text sand 0 3;sand 1 2;sand 1 5;sand 2 4;tide 1 3 5 2;rot 2;gangs 2;"
        + "whale 0 9 2 4 6 1 0;whale 2 8 1 8 5 3 1;";
    private static final String SANDS = "sand 0 9;sand 1 8;sand 2 7;sand 3 6;sand 0 5;sand 1 0;";

    public static void main(String[] args) {
        rule();
        place();
        levelOfHoursBeyond();
        beast();
        beastIsLost();
        partByNumber();
        partWhat();
        worthNow();
        canBeWorked();
        whoseByLaw();
        ownerOfMost();
        mark();
        markLoses();
        own();
        law();
        rot();
        gangs();
        lump();
        C.finish("EdgeShoreTest");
    }

    private static void rule() {
        Script.run(C, "6: what 0 to 6", SHORE, "rule(MIN) = BAD", "rule(-1) = BAD", "rule(0) = 4", "rule(1) = 4", "rule(2) = 2",
            "rule(3) = 0", "rule(4) = 2", "rule(5) = 2", "rule(6) = 0", "rule(7) = BAD", "rule(MAX) = BAD");
        Script.run(C, "6: nothing there", "rule(-1) = BAD", "rule(0) = 0", "rule(1) = 1", "rule(2) = 0", "rule(6) = 0", "rule(7) = BAD");
    }

    private static void place() {
        Script.run(C, "7: none", "place(-1, 0) = BAD", "place(0, 0) = BAD", "place(0, 1) = BAD");
        Script.run(C, "7: one", "text sand 3 9;", "place(-1, 0) = BAD", "place(0, 0) = 3", "place(0, 1) = 9", "place(1, 0) = BAD",
            "place(1, 1) = BAD", "place(0, -1) = BAD", "place(0, 2) = BAD", "place(0, MIN) = BAD", "place(0, MAX) = BAD");
        Script.run(C, "7: six", "text " + SANDS, "place(0, 0) = 0", "place(0, 1) = 9", "place(5, 0) = 1", "place(5, 1) = 0",
            "place(6, 0) = BAD", "place(6, 1) = BAD", "place(-1, 1) = BAD", "place(MIN, 0) = BAD", "place(MAX, 1) = BAD");
        Script.run(C, "7: fewer than there were", "text " + SANDS, "place(2, 0) = 2", "text sand 1 1;sand 1 2;", "place(1, 1) = 2",
            "place(2, 0) = BAD", "place(5, 0) = BAD");
    }

    private static void levelOfHoursBeyond() {
        for (int n = 1; n <= 6; n++) {
            String tide = "text tide" + " 9 8 7 6 5 4".substring(0, 2 * n) + ";";
            String[] rows = {tide, "rule(1) = " + n, "level(MIN) = BAD", "level(-1) = BAD", "level(1000) = BAD", "level(1001) = BAD",
                "level(MAX) = BAD"};
            for (int h : new int[] {0, n - 1, n, n + 1, 2 * n - 1, 2 * n, 500, 998, 999}) {
                rows = Script.join(rows, "level(" + h + ") = " + (9 - h % n));
            }
            Script.run(C, "8: an HOUR (0 to 999), at h modulo how many there are", rows);
        }
        Script.run(C, "8: LEVELS 0 and 9", "text tide 0 9;", "level(0) = 0", "level(1) = 9", "level(2) = 0", "level(999) = 9");
        Script.run(C, "8: LEVELS of several lines", "text tide 3;sand 0 0;tide 4 5;", "level(0) = 3", "level(1) = 4", "level(2) = 5",
            "level(3) = 3", "level(999) = 3");
        Script.run(C, "8: none told", "text sand 0 0;", "rule(1) = 1", "level(0) = 0", "level(1) = 0");
        Script.run(C, "8: fewer than there were", "text tide 1 2 3 4 5 6;", "text tide 7 8;", "level(1) = 8", "level(2) = 7",
            "level(5) = 8", "text rot 1;", "level(0) = 0", "level(1) = 0");
    }

    private static void beast() {
        Script.run(C, "9: none", "beast(-1, 0) = BAD", "beast(0, 0) = BAD", "beast(0, 1) = BAD", "beast(0, 2) = BAD");
        Script.run(C, "9: one", "text sand 0 9;whale 0 1 1 1;", "beast(-1, 0) = BAD", "beast(0, 0) = 0", "beast(0, 1) = 1",
            "beast(0, 2) = 0", "beast(1, 0) = BAD", "beast(0, -1) = BAD", "beast(0, 3) = BAD", "beast(0, MIN) = BAD",
            "beast(0, MAX) = BAD", "beast(MIN, 0) = BAD", "beast(MAX, 0) = BAD");
        Script.run(C, "9: three", "text " + SANDS + "whale 5 1 1 1;whale 3 1 1 1 1 1 1;whale 0 1 1 1 1 1 1 1 1 1;",
            "beast(0, 0) = 5", "beast(0, 1) = 1", "beast(1, 0) = 3", "beast(1, 1) = 2", "beast(2, 0) = 0", "beast(2, 1) = 3",
            "beast(2, 2) = 0", "beast(3, 0) = BAD", "beast(3, 2) = BAD", "beast(2, 3) = BAD", "beast(2, -1) = BAD");
    }

    private static void beastIsLost() {
        Script.run(C, "9: LOST", SHORE, "beast(0, 2) = 0", "go(NONE, NONE) = 0", "beast(0, 2) = 0", "go(NONE, NONE) = 0",
            "beast(0, 2) = 1", "beast(1, 2) = 0", "go(NONE, NONE) = 0", "beast(0, 2) = 1", "beast(0, 0) = 0", "beast(0, 1) = 2");
        Script.run(C, "Terms 2: LEVEL above its MARK", "text sand 0 5;tide 4 5 6;whale 0 1 3 0;", "wet(0) = 0", "wet(1) = 0",
            "wet(2) = 1", "go(0, NONE) = 0", "beast(0, 2) = 0", "go(0, NONE) = 0", "beast(0, 2) = 1");
    }

    private static void partByNumber() {
        Script.run(C, "10: none", "part(0, 0) = BAD", "part(-1, 0) = BAD", "part(10, 0) = BAD");
        Script.run(C, "10: its NUMBER", "text " + SANDS + "whale 5 1 1 1;whale 3 2 1 1 3 1 1;whale 0 4 1 1 5 1 1 6 1 1;",
            "part(0, 0) = 1", "part(1, 0) = BAD", "part(9, 0) = BAD", "part(10, 0) = 2", "part(11, 0) = 3", "part(12, 0) = BAD",
            "part(13, 0) = BAD", "part(19, 0) = BAD", "part(20, 0) = 4", "part(21, 0) = 5", "part(22, 0) = 6", "part(23, 0) = BAD",
            "part(29, 0) = BAD", "part(30, 0) = BAD", "part(100, 0) = BAD", "part(-1, 0) = BAD", "part(-9, 0) = BAD",
            "part(-10, 0) = BAD", "part(NONE, 0) = BAD", "part(MIN, 0) = BAD", "part(MAX, 0) = BAD");
        Script.run(C, "10: fewer than there were", "text sand 0 9;sand 0 9;sand 0 9;whale 0 4 1 1 5 1 1 6 1 1;", "part(2, 0) = 6",
            "text sand 0 9;sand 0 9;whale 1 7 2 3;", "part(0, 0) = 7", "part(1, 0) = BAD", "part(2, 0) = BAD");
        Script.run(C, "Terms 1: nothing of what there was is left", "text sand 0 9;sand 0 9;sand 0 9;sand 0 9;whale 0 9 1 8 9 1 8 9 1 8;whale 3 9 1 8;",
            "text sand 0 9;rot 9;gangs 2;whale 0 1 3 1;", "open() = 0", "best(3, 0) = 1", "best(1, 10) = 0", "best(1, 11) = NONE", "share(0, 0) = 1",
            "luck(0, 0) = 1", "luck(0, 1) = 8", "drift(0, 3, 0) = 1", "drift(0, 60, 0) = 1", "count(4) = 0", "part(1, 4) = BAD", "go(1, NONE) = BAD",
            "go(10, NONE) = BAD", "strand(1, 0) = 0", "floats(1) = BAD");
    }

    private static void partWhat() {
        Script.run(C, "10: what 0 to 5", SHORE, "part(0, MIN) = BAD", "part(0, -1) = BAD", "part(0, 0) = 9", "part(0, 1) = 2",
            "part(0, 2) = 4", "part(0, 3) = 9", "part(0, 4) = 1", "part(0, 5) = 0", "part(0, 6) = BAD", "part(0, MAX) = BAD",
            "part(11, 0) = 5", "part(11, 1) = 3", "part(11, 2) = 1", "part(11, 3) = 5", "part(11, 4) = 1", "part(11, 5) = 1",
            "part(11, 6) = BAD", "part(2, 6) = BAD");
    }

    private static void worthIs(int worth, int rot, int hours, int due) {
        String[] rows = Script.join(new String[] {"text sand 0 9;rot " + rot + ";whale 0 " + worth + " 1 0;"}, Script.idle(hours));
        Script.run(C, "Terms 2: worth " + worth + " less HOUR " + hours + " by ROT " + rot + ", divided down, 0 at least",
            Script.join(rows, "rule(6) = " + hours, "part(0, 0) = " + worth, "part(0, 3) = " + due, "go(0, NONE) = " + due,
                "has(0) = " + due));
    }

    private static void worthNow() {
        int[][] all = {{9, 4, 0, 9}, {9, 4, 3, 9}, {9, 4, 4, 8}, {9, 4, 7, 8}, {9, 4, 8, 7}, {9, 4, 35, 1}, {9, 4, 36, 0},
            {9, 4, 37, 0}, {9, 4, 40, 0}, {9, 4, 100, 0}, {9, 1, 1, 8}, {9, 1, 8, 1}, {9, 1, 9, 0}, {9, 1, 10, 0}, {9, 9, 8, 9},
            {9, 9, 9, 8}, {9, 9, 80, 1}, {9, 9, 81, 0}, {9, 9, 90, 0}, {0, 1, 0, 0}, {0, 1, 1, 0}, {0, 9, 9, 0}, {1, 2, 1, 1},
            {1, 2, 2, 0}, {1, 2, 4, 0}, {9, 9, 998, 0}};
        for (int[] one : all) {
            worthIs(one[0], one[1], one[2], one[3]);
        }
        Script.run(C, "10: worth NOW of what is CUT or LOST", SHORE, "go(1, NONE) = 6", "go(NONE, NONE) = 0", "part(1, 1) = 0",
            "beast(0, 2) = 1", "part(1, 3) = 5", "part(0, 3) = 8", "part(0, 0) = 9");
    }

    private static void canBeWorked() {
        Script.run(C, "Terms 2: not CUT, its BEAST not LOST, its PLACE not WET", SHORE, "part(0, 4) = 1", "part(1, 4) = 1",
            "part(10, 4) = 1", "part(11, 4) = 1", "go(0, 10) = 8", "part(10, 4) = 0", "part(0, 4) = 1", "part(1, 4) = 0",
            "part(11, 4) = 1", "go(NONE, NONE) = 0", "part(0, 4) = 0", "part(1, 4) = 0", "part(10, 4) = 0", "part(11, 4) = 0",
            "go(NONE, NONE) = 0", "part(0, 4) = 0", "part(11, 4) = 1");
        Script.run(C, "Terms 2: WORK of 3 HOURS", "text sand 0 9;whale 0 1 3 0;", "part(0, 1) = 3", "go(0, NONE) = 0",
            "part(0, 1) = 2", "part(0, 4) = 1", "go(0, NONE) = 0", "part(0, 1) = 1", "part(0, 4) = 1", "go(0, NONE) = 1",
            "part(0, 1) = 0", "part(0, 4) = 0", "go(0, NONE) = STATE");
    }

    private static void owners(String owners, int worths, int... due) {
        String[] rows = {"text sand " + owners.charAt(0) + " 9;sand " + owners.charAt(1) + " 9;sand " + owners.charAt(2)
            + " 9;whale 0" + " 1 1 0".repeat(worths) + ";"};
        for (int law = 0; law < 4; law++) {
            rows = Script.join(rows, "law(" + law + ")");
            for (int p = 0; p < worths; p++) {
                rows = Script.join(rows, "part(" + p + ", 5) = " + due[law * worths + p]);
            }
        }
        Script.run(C, "Terms 2: WHOSE a PART is, owners " + owners, rows);
    }

    private static void whoseByLaw() {
        owners("321", 1, 3, 3, 3, 3);
        owners("321", 2, 3, 3, 2, 2, 3, 2, 2, 2);
        owners("321", 3, 3, 3, 3, 1, 1, 1, 3, 2, 1, 1, 1, 1);
        owners("012", 3, 0, 0, 0, 2, 2, 2, 0, 1, 2, 0, 0, 0);
        owners("333", 3, 3, 3, 3, 3, 3, 3, 3, 3, 3, 3, 3, 3);
    }

    private static void ownerOfMost() {
        String[] owners = {"000", "033", "303", "330", "003", "030", "300", "123", "321", "213", "132", "311", "131", "113", "221"};
        int[] due = {0, 3, 3, 3, 0, 0, 0, 1, 1, 1, 1, 1, 1, 1, 2};
        for (int i = 0; i < owners.length; i++) {
            String o = owners[i];
            Script.run(C, "Terms 2: LAW 3, of several the least, owners " + o, "text sand 3 9;sand " + o.charAt(0) + " 9;sand "
                + o.charAt(1) + " 9;sand " + o.charAt(2) + " 9;sand 0 9;law 3;whale 1 1 1 0 1 1 0 1 1 0;", "part(0, 5) = " + due[i],
                "part(2, 5) = " + due[i], "go(1, NONE) = 1", "has(" + due[i] + ") = 1");
        }
        Script.run(C, "Terms 2: LAW 3 of two", "text sand 3 9;sand 2 9;law 3;whale 0 1 1 0 1 1 0;", "part(0, 5) = 2",
            "own(1, 3) = 2", "part(0, 5) = 3", "own(0, 0) = 3", "part(1, 5) = 0");
    }

    private static void mark() {
        Script.run(C, "11: MARK (0 to 9)", SHORE, "mark(0, MIN) = BAD", "mark(0, -1) = BAD", "mark(0, 10) = BAD", "mark(0, MAX) = BAD",
            "mark(0, 9) = 3", "place(0, 1) = 9", "mark(0, 1) = 9", "place(0, 1) = 1", "mark(-1, 5) = BAD", "mark(4, 5) = BAD",
            "mark(MIN, 5) = BAD", "mark(MAX, 5) = BAD", "mark(3, 0) = 4", "mark(3, 9) = 0", "mark(4, -1) = BAD", "place(1, 1) = 2",
            "place(2, 1) = 5");
        Script.run(C, "11: of six PLACES the last", "text " + SANDS, "mark(5, 9) = 0", "mark(5, 0) = 9", "mark(6, 0) = BAD");
        Script.run(C, "11: there is no such PLACE", "mark(0, 0) = BAD", "mark(-1, 0) = BAD");
    }

    private static void markLoses() {
        Script.run(C, "11: BEASTS that FLOAT then are LOST", "text sand 0 5;sand 1 5;sand 0 5;tide 3;whale 0 1 1 0 1 1 0;whale 2 1 1 0;",
            "mark(0, 3) = 5", "wet(0) = 0", "mark(0, 2) = 3", "wet(0) = 1", "beast(0, 2) = 0", "mark(1, 3) = 5", "beast(0, 2) = 0",
            "mark(1, -1) = BAD", "mark(3, 0) = BAD", "beast(0, 2) = 0", "mark(1, 2) = 3", "beast(0, 2) = 1", "beast(1, 2) = 0",
            "mark(1, 9) = 2", "mark(0, 9) = 2", "beast(0, 2) = 1", "floats(0) = STATE", "part(0, 4) = 0", "go(0, NONE) = STATE");
        Script.run(C, "11: in HOUR, not in another one", "text sand 0 5;tide 0 4;whale 0 1 3 0;", "mark(0, 0) = 5", "beast(0, 2) = 0",
            "mark(0, 4) = 0", "go(0, NONE) = 0", "beast(0, 2) = 0", "mark(0, 3) = 4", "beast(0, 2) = 1");
        Script.run(C, "11: saved from the tide", "text sand 0 3;tide 0 4;whale 0 1 3 0;", "floats(0) = 1", "mark(0, 4) = 3",
            "floats(0) = NONE", "go(0, NONE) = 0", "beast(0, 2) = 0");
    }

    private static void own() {
        Script.run(C, "12: an OWNER (0 to 3)", SHORE, "own(0, MIN) = BAD", "own(0, -1) = BAD", "own(0, 4) = BAD", "own(0, MAX) = BAD",
            "own(0, 3) = 0", "place(0, 0) = 3", "own(0, 0) = 3", "place(0, 0) = 0", "own(-1, 0) = BAD", "own(4, 0) = BAD",
            "own(MIN, 0) = BAD", "own(MAX, 0) = BAD", "own(3, 3) = 2", "own(3, 0) = 3", "own(4, 4) = BAD", "place(1, 0) = 1");
        Script.run(C, "12: of six PLACES the last", "text " + SANDS, "own(5, 3) = 1", "own(5, 2) = 3", "own(6, 0) = BAD");
        Script.run(C, "12: there is no such PLACE", "own(0, 0) = BAD");
        Script.run(C, "12: what was won stays", SHORE, "go(1, NONE) = 6", "own(0, 3) = 0", "has(0) = 6", "has(3) = 0", "part(0, 5) = 3");
    }

    private static void law() {
        Script.run(C, "13: LAW (0 to 3; 0)", "rule(3) = 0", "law(MIN) = BAD", "law(-1) = BAD", "law(4) = BAD", "law(MAX) = BAD",
            "law(0) = 0", "law(3) = 0", "rule(3) = 3", "law(4) = BAD", "law(-1) = BAD", "law(1) = 3", "law(2) = 1", "law(0) = 2",
            "rule(3) = 0");
    }

    private static void rot() {
        Script.run(C, "14: ROT (1 to 9; 4)", "rule(4) = 4", "rot(MIN) = BAD", "rot(-1) = BAD", "rot(0) = BAD", "rot(10) = BAD",
            "rot(MAX) = BAD", "rot(1) = 4", "rule(4) = 1", "rot(9) = 1", "rule(4) = 9", "rot(10) = BAD", "rot(0) = BAD", "rot(5) = 9");
    }

    private static void gangs() {
        Script.run(C, "15: GANGS (1, 2; 1)", "rule(5) = 1", "gangs(MIN) = BAD", "gangs(-1) = BAD", "gangs(0) = BAD", "gangs(3) = BAD",
            "gangs(MAX) = BAD", "gangs(2) = 1", "rule(5) = 2", "gangs(3) = BAD", "gangs(0) = BAD", "gangs(2) = 2", "gangs(1) = 2",
            "gangs(1) = 1", "rule(5) = 1");
    }

    private static void lump() {
        Script.run(C, "16: LUMP (0 to 8 of eight)", SHORE, "lump(0, MIN) = BAD", "lump(0, -1) = BAD", "lump(0, 9) = BAD",
            "lump(0, MAX) = BAD", "lump(0, 8) = 4", "part(0, 2) = 8", "lump(0, 0) = 8", "part(0, 2) = 0", "lump(-1, 0) = BAD",
            "lump(NONE, 0) = BAD", "lump(2, 0) = BAD", "lump(9, 0) = BAD", "lump(12, 0) = BAD", "lump(20, 0) = BAD", "lump(MIN, 0) = BAD",
            "lump(MAX, 0) = BAD", "lump(11, 8) = 1", "lump(11, 9) = BAD", "lump(12, 9) = BAD", "part(11, 2) = 8", "part(1, 2) = 0");
        Script.run(C, "16: there is no such PART", "lump(0, 0) = BAD");
        Script.run(C, "16: of a PART that is CUT, of a BEAST that is LOST", SHORE, "go(1, NONE) = 6", "lump(1, 5) = 0", "go(NONE, NONE) = 0",
            "beast(0, 2) = 1", "lump(0, 5) = 4", "lump(0, 6) = 5", "part(0, 2) = 6");
    }
}
