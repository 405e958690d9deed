/** The boundaries of promises 33 to 39: IMAGES, SHEETS, counts. */
public final class EdgeSheetsTest {
    private static final Check C = new Check();
    private static final String SHORE = "text sand 0 3;sand 1 2;sand 1 5;sand 2 4;tide 1 3 5 2;rot 2;gangs 2;"
        + "whale 0 9 2 4 6 1 0;whale 2 8 1 8 5 3 1;";
    private static final String TWO = "text sand 0 9;sand 1 9;whale 0 3 3 0 7 1 8;";

    public static void main(String[] args) {
        keep();
        back();
        backIsAll();
        sheetBounds();
        sheetIsNew();
        layBounds();
        layLowestBits();
        readBounds();
        readCells();
        readWhatTheMachineRefuses();
        readWhatGoRefuses();
        readTheFirstMet();
        readToTheThousandth();
        torn();
        count();
        C.finish("EdgeSheetsTest");
    }

    private static void keep() {
        Script.run(C, "33: IMAGE k (0, 1)", SHORE, "keep(MIN) = BAD", "keep(-1) = BAD", "keep(2) = BAD", "keep(MAX) = BAD", "count(1) = 0",
            "keep(0) = 0", "count(1) = 1", "keep(0) = 1", "count(1) = 1", "keep(1) = 0", "count(1) = 2", "keep(1) = 1", "keep(2) = BAD",
            "keep(-1) = BAD", "count(1) = 2");
        Script.run(C, "33: of nothing", "keep(0) = 0", "law(3) = 0", "go(NONE, NONE) = 0", "back(0) = 0", "rule(3) = 0", "rule(6) = 0",
            "rule(0) = 0");
        Script.run(C, "33: an IMAGE in place of one", SHORE, "keep(0) = 0", "go(1, NONE) = 6", "keep(1) = 0", "keep(0) = 1", "go(0, NONE) = 0",
            "back(0) = 1", "has(0) = 6", "part(0, 1) = 2", "back(1) = 1");
    }

    private static void back() {
        Script.run(C, "34: BAD; STATE: there is none", SHORE, "back(MIN) = BAD", "back(-1) = BAD", "back(0) = STATE", "back(1) = STATE",
            "back(2) = BAD", "back(MAX) = BAD", "keep(1) = 0", "back(0) = STATE", "back(1) = 0", "keep(0) = 0", "back(0) = 0", "count(1) = 2");
        Script.run(C, "34: HOUR", SHORE, "keep(0) = 0", "go(NONE, NONE) = 0", "keep(1) = 0", "go(NONE, NONE) = 0", "back(1) = 1", "rule(6) = 1",
            "back(0) = 0", "rule(6) = 0", "back(1) = 1", "beast(0, 2) = 0");
        Script.run(C, "34: as often as may be", SHORE, "keep(0) = 0", "go(1, NONE) = 6", "back(0) = 0", "go(0, 10) = 8", "mark(0, 9) = 3",
            "law(3) = 0", "own(3, 3) = 2", "lump(0, 1) = 4", "back(0) = 0", "has(0) = 0", "has(1) = 0", "part(0, 1) = 2", "part(10, 1) = 1",
            "part(1, 1) = 1", "place(0, 1) = 3", "place(3, 0) = 2", "part(0, 2) = 4", "rule(3) = 0");
        Script.run(C, "34: a text takes IMAGES, one that is refused does not", SHORE, "keep(0) = 0", "tape !", "text() = -10", "back(0) = 0",
            "text() = 0", "back(0) = STATE", "count(1) = 0", "keep(0) = 0");
    }

    private static void backIsAll() {
        String[] kept = {SHORE, "go(0, 10) = 8", "tell(0, 15) = 1", "sheet(0, 1, 3) = 1", "keep(0) = 0", "tape rot 3;"};
        String[] changes = {"mark(0, 0) = 3", "mark(3, 9) = 4", "own(0, 3) = 0", "own(3, 0) = 2", "law(3) = 0", "rot(9) = 2", "gangs(1) = 2",
            "lump(0, 8) = 4", "lump(11, 0) = 1", "go(11, NONE) = 0", "go(NONE, NONE) = 0", "go(11, NONE) = 0"};
        Script.alike(C, "34: all is as IMAGE k", Script.join(Script.join(kept, changes), "back(0) = 1"), kept);
        for (String change : changes) {
            if (!change.startsWith("go")) {
                Script.alike(C, "34: all is as IMAGE k behind " + change, Script.join(kept, change, "back(0) = 1"), kept);
            }
        }
        Script.run(C, "33: TOLD, SHEETS and THE TAPE are no part of it", Script.join(kept, "tell(1, 1) = 2", "sheet(0, 0, 7) = 1", "feed(65) = 7",
            "read(1, 0, 0, 1) = 0", "back(0) = 1", "count(0) = 2", "count(3) = 7", "count(2) = 7", "torn() = 1", "text() = -16"));
    }

    private static void sheetBounds() {
        Script.run(C, "35: SHEETS 0 to 3, lanes 0 to 2, 0 to 40 CELLS; SIZE", "sheet(MIN, 0, 1) = BAD", "sheet(-1, 0, 1) = BAD",
            "sheet(4, 0, 1) = BAD", "sheet(MAX, 0, 1) = BAD", "sheet(0, MIN, 1) = BAD", "sheet(0, -1, 1) = BAD", "sheet(0, 3, 1) = BAD",
            "sheet(0, MAX, 1) = BAD", "sheet(0, 0, 41) = BAD", "sheet(0, 0, MAX) = BAD", "sheet(0, 0, -1) = -14", "sheet(0, 0, MIN) = -14",
            "sheet(3, 2, -1) = -14", "sheet(4, 0, -1) = BAD", "sheet(-1, 0, -1) = BAD", "sheet(0, 3, -1) = BAD", "sheet(0, -1, -1) = BAD",
            "sheet(4, 0, 41) = BAD", "count(3) = NONE", "lay(3, 0, 0) = -11", "sheet(0, 0, 0) = 1", "count(3) = 0", "sheet(0, 0, 40) = 1",
            "count(3) = 40", "sheet(0, 2, 41) = BAD", "sheet(0, 2, -1) = -14", "count(3) = 40", "sheet(3, 2, 40) = 1", "sheet(3, 0, 0) = 1",
            "count(3) = 40", "torn() = 0");
    }

    private static void sheetIsNew() {
        for (int lane = 0; lane < 3; lane++) {
            Script.run(C, "35: a new row of CELLS 0, lane " + lane, TWO, "sheet(1, " + lane + ", 2) = 1", "lay(1, 0, 1) = 1", "lay(1, 1, 1) = 1",
                "sheet(1, " + lane + ", 2) = 1", "read(1, " + lane + ", 0, 2) = 2", "part(0, 1) = 1", "part(1, 1) = 1");
        }
        Script.run(C, "35: one that is longer", TWO, "sheet(1, 0, 2) = 1", "lay(1, 1, 1) = 1", "sheet(1, 0, 1) = 1", "lay(1, 1, 1) = -12",
            "sheet(1, 0, 2) = 1", "read(1, 0, 1, 1) = 1", "part(0, 1) = 2", "part(1, 1) = 1");
        Script.run(C, "35: of another lane", TWO, "sheet(1, 0, 2) = 1", "sheet(1, 1, 2) = 1", "read(1, 0, 0, 1) = 0", "torn() = 3",
            "read(1, 1, 0, 1) = 1", "torn() = 0");
        Script.run(C, "35: each by itself", TWO, "sheet(0, 0, 1) = 1", "sheet(1, 1, 2) = 1", "sheet(2, 2, 3) = 1", "lay(0, 0, 1) = 1",
            "lay(0, 1, 1) = -12", "lay(1, 1, 1) = 1", "lay(1, 2, 1) = -12", "lay(2, 2, 1) = 1", "lay(2, 3, 1) = -12", "lay(3, 0, 1) = -11",
            "read(1, 1, 0, 1) = 1", "part(0, 1) = 2", "read(0, 0, 0, 1) = 1", "part(1, 1) = 0");
    }

    private static void layBounds() {
        Script.run(C, "36: BAD: k; NULL", "lay(MIN, 0, 0) = BAD", "lay(-1, 0, 0) = BAD", "lay(4, 0, 0) = BAD", "lay(MAX, 0, 0) = BAD",
            "lay(0, 0, 0) = -11", "lay(0, -1, 0) = -11", "lay(0, 40, 0) = -11", "lay(3, MIN, 0) = -11", "lay(4, -1, 0) = BAD");
        Script.run(C, "36: INDEX", "sheet(0, 0, 0) = 1", "lay(0, 0, 0) = -12", "lay(0, -1, 0) = -12", "sheet(0, 1, 1) = 1", "lay(0, 0, 0) = 1",
            "lay(0, 1, 0) = -12", "lay(0, -1, 0) = -12", "sheet(0, 2, 40) = 1", "lay(0, 39, 0) = 1", "lay(0, 40, 0) = -12", "lay(0, MAX, 0) = -12",
            "lay(0, MIN, 0) = -12", "lay(0, 0, MIN) = 1", "lay(0, 0, MAX) = 1", "torn() = 0");
    }

    /** What a CELL of a lane tells when v was laid: -20 if there is no such PART, else the PART, or -4 for none. */
    private static void laid(int lane, String v, int told) {
        String[] rows = {TWO, "sheet(0, " + lane + ", 1) = 1", "lay(0, 0, " + v + ") = 1",
            "read(0, " + lane + ", 0, 1) = " + (told == -20 ? -20 : 1), "part(0, 1) = " + (told == 0 ? 2 : 3),
            "part(1, 1) = " + (told == 1 ? 0 : 1), "rule(6) = " + (told == -20 ? 0 : 1)};
        Script.run(C, "36: its lowest bits, " + v + " in lane " + lane, rows);
    }

    private static void layLowestBits() {
        for (int lane = 0; lane < 3; lane++) {
            laid(lane, "0", 0);
            laid(lane, "1", 1);
            laid(lane, "-4", -4);
            laid(lane, "2", -20);
            laid(lane, "127", -20);
            laid(lane, "128", -20);
            laid(lane, "-1", -20);
            laid(lane, "-128", -20);
            laid(lane, "MAX", -20);
            laid(lane, "65536", lane < 2 ? 0 : -20);
            laid(lane, "65537", lane < 2 ? 1 : -20);
            laid(lane, "65532", lane < 2 ? -4 : -20);
            laid(lane, "-65535", lane < 2 ? 1 : -20);
            laid(lane, "256", lane < 1 ? 0 : -20);
            laid(lane, "257", lane < 1 ? 1 : -20);
            laid(lane, "252", lane < 1 ? -4 : -20);
            laid(lane, "-255", lane < 1 ? 1 : -20);
            laid(lane, "32768", lane < 1 ? 0 : -20);
            laid(lane, "32769", lane < 1 ? 1 : -20);
            laid(lane, "MIN", lane < 2 ? 0 : -20);
            laid(lane, "-2147483647", lane < 2 ? 1 : -20);
        }
    }

    private static void readBounds() {
        Script.run(C, "37: BAD: k, lane, n", TWO, "sheet(0, 0, 40) = 1", "sheet(3, 2, 40) = 1", "read(MIN, 0, 0, 1) = BAD", "read(-1, 0, 0, 1) = BAD",
            "read(4, 0, 0, 1) = BAD", "read(MAX, 0, 0, 1) = BAD", "read(0, MIN, 0, 1) = BAD", "read(0, -1, 0, 1) = BAD", "read(0, 3, 0, 1) = BAD",
            "read(0, MAX, 0, 1) = BAD", "read(0, 0, 0, MIN) = BAD", "read(0, 0, 0, -1) = BAD", "read(0, 0, 0, 21) = BAD", "read(0, 0, 0, MAX) = BAD",
            "read(4, 0, -1, 1) = BAD", "read(0, 3, -1, 1) = BAD", "read(0, 1, -1, 21) = BAD", "torn() = 0", "rule(6) = 0", "read(0, 0, 0, 0) = 0",
            "rule(6) = 0", "read(3, 2, 39, 1) = 1", "rule(6) = 1", "part(0, 1) = 2");
    }

    private static void readCells() {
        String[] rows = {TWO, "sheet(0, 0, 40) = 1"};
        for (int i = 0; i < 40; i++) {
            rows = Script.join(rows, "lay(0, " + i + ", NONE) = 1");
        }
        Script.run(C, "37: n (0 to 20) HOURS from CELL f on", Script.join(rows, "read(0, 0, 0, 0) = 0", "rule(6) = 0", "read(0, 0, 0, 1) = 1",
            "rule(6) = 1", "read(0, 0, 0, 20) = 20", "rule(6) = 21", "torn() = 0", "read(0, 0, 20, 20) = 20", "torn() = 0", "rule(6) = 41",
            "read(0, 0, 21, 20) = 19", "torn() = 2", "rule(6) = 60", "read(0, 0, 39, 1) = 1", "torn() = 0", "read(0, 0, 40, 1) = 0", "torn() = 2",
            "read(0, 0, 40, 0) = 0", "torn() = 0", "rule(6) = 61"));
        Script.run(C, "37: one behind another, as by go()", TWO, "sheet(2, 2, 5) = 1", "lay(2, 0, 0) = 1", "lay(2, 1, 1) = 1", "lay(2, 2, NONE) = 1",
            "lay(2, 3, 0) = 1", "lay(2, 4, 0) = 1", "read(2, 2, 0, 5) = 5", "has(0) = 9", "count(4) = 2", "rule(6) = 5");
        Script.run(C, "37: the other GANG works at none", SHORE, "sheet(0, 0, 2) = 1", "lay(0, 0, 1) = 1", "read(0, 0, 0, 1) = 1", "has(0) = 6",
            "part(0, 1) = 2", "part(10, 1) = 1", "rule(6) = 1");
    }

    private static void readWhatTheMachineRefuses() {
        Script.run(C, "37: NULL, CAST, INDEX", TWO, "read(0, 0, 0, 1) = 0", "torn() = 1", "read(0, 0, -1, 20) = 0", "torn() = 1", "sheet(0, 1, 2) = 1",
            "read(0, 0, 0, 1) = 0", "torn() = 3", "read(0, 2, 0, 1) = 0", "torn() = 3", "read(0, 2, -1, 1) = 0", "torn() = 3", "read(0, 1, -1, 1) = 0",
            "torn() = 2", "read(0, 1, 2, 1) = 0", "torn() = 2", "read(0, 1, MAX, 20) = 0", "torn() = 2", "read(0, 1, MIN, 20) = 0", "torn() = 2",
            "rule(6) = 0", "read(0, 1, 1, 1) = 1", "torn() = 0", "rule(6) = 1");
        Script.run(C, "37: those ahead went", TWO, "sheet(0, 2, 3) = 1", "lay(0, 0, 1) = 1", "read(0, 2, 0, 20) = 3", "torn() = 2", "rule(6) = 3",
            "has(0) = 7", "part(0, 1) = 1", "read(0, 2, 2, 2) = 1", "torn() = 2", "has(0) = 10", "rule(6) = 4", "read(0, 2, 3, 1) = 0", "torn() = 2");
        Script.run(C, "37: no CELLS", TWO, "sheet(0, 0, 0) = 1", "read(0, 0, 0, 1) = 0", "torn() = 2", "read(0, 0, 0, 0) = 0", "torn() = 0");
        Script.run(C, "37: no HOURS, so nothing that the machine could refuse", TWO, "read(0, 0, 0, 1) = 0", "torn() = 1", "read(0, 0, 0, 0) = 0",
            "torn() = 0", "sheet(0, 1, 1) = 1", "read(0, 0, 0, 1) = 0", "torn() = 3", "read(0, 0, 0, 0) = 0", "torn() = 0");
    }

    private static void readWhatGoRefuses() {
        String[] idle = Script.join(new String[] {TWO}, Script.idle(0));
        for (int i = 0; i < 20; i++) {
            Script.run(C, "37: -20 less i: the i-th is refused by go(): then none went", Script.join(idle, "lay(3, " + i + ", 2) = 1",
                "read(3, 0, 0, 20) = " + (-20 - i), "rule(6) = 0", "read(3, 0, " + i + ", 1) = -20", "read(3, 0, 0, " + i + ") = " + i,
                "rule(6) = " + i));
        }
        Script.run(C, "37: in whichever way: BAD", TWO, "sheet(0, 0, 3) = 1", "lay(0, 0, 1) = 1", "lay(0, 1, 9) = 1", "read(0, 0, 0, 2) = -21",
            "has(0) = 0", "part(1, 1) = 1", "rule(6) = 0", "lay(0, 1, -1) = 1", "read(0, 0, 0, 3) = -21", "lay(0, 1, -3) = 1",
            "read(0, 0, 0, 3) = -21", "lay(0, 1, -5) = 1", "read(0, 0, 0, 3) = -21");
        Script.run(C, "37: in whichever way: STATE, CUT by an HOUR ahead", TWO, "sheet(0, 0, 3) = 1", "lay(0, 0, 1) = 1", "lay(0, 1, 1) = 1",
            "read(0, 0, 0, 2) = -21", "has(0) = 0", "part(1, 1) = 1", "read(0, 0, 0, 1) = 1", "read(0, 0, 0, 1) = -20", "has(0) = 7");
        Script.run(C, "37: in whichever way: STATE, WET or LOST by then", SHORE, "sheet(0, 0, 3) = 1", "lay(0, 1, 1) = 1", "read(0, 0, 0, 3) = -21",
            "lay(0, 1, NONE) = 1", "read(0, 0, 0, 3) = -22", "beast(0, 2) = 0", "part(0, 1) = 2", "rule(6) = 0", "read(0, 0, 0, 2) = 2",
            "beast(0, 2) = 1");
    }

    private static void readTheFirstMet() {
        Script.run(C, "37: the first met", TWO, "sheet(0, 0, 2) = 1", "lay(0, 0, NONE) = 1", "lay(0, 1, 5) = 1", "read(0, 0, 0, 3) = -21", "torn() = 0",
            "rule(6) = 0", "lay(0, 0, 5) = 1", "read(0, 0, 0, 3) = -20", "read(0, 0, -1, 3) = 0", "torn() = 2", "read(0, 1, 0, 3) = 0", "torn() = 3",
            "read(0, 0, 0, 3) = -20", "torn() = 3", "rule(6) = 0");
    }

    private static void readToTheThousandth() {
        String[] late = Script.join(new String[] {TWO}, Script.idle(990));
        Script.run(C, "37: in whichever way: FULL", Script.join(late, "rule(6) = 990", "read(3, 0, 0, 20) = -29", "rule(6) = 990",
            "read(3, 0, 0, 10) = -29", "read(3, 0, 0, 9) = 9", "rule(6) = 999", "read(3, 0, 0, 1) = -20", "read(3, 0, 0, 0) = 0",
            "read(3, 0, 20, 1) = 0", "torn() = 2", "rule(6) = 999"));
        Script.run(C, "37: the machine ahead of FULL", Script.join(late, "read(3, 0, 11, 20) = 9", "torn() = 2", "rule(6) = 999",
            "read(3, 0, 19, 2) = -20"));
    }

    private static void torn() {
        Script.run(C, "38: the FAULT of the latest read() that came to an end; 0", TWO, "torn() = 0", "read(0, 0, 0, 1) = 0", "torn() = 1",
            "read(4, 0, 0, 1) = BAD", "read(0, 3, 0, 1) = BAD", "read(0, 0, 0, 21) = BAD", "torn() = 1", "sheet(0, 2, 1) = 1", "lay(0, 5, 0) = -12",
            "sheet(1, 0, -1) = -14", "torn() = 1", "read(0, 2, 0, 1) = 1", "torn() = 0", "read(0, 2, 0, 2) = 1", "torn() = 2", "lay(0, 0, 8) = 1",
            "read(0, 2, 0, 1) = -20", "torn() = 2", "read(0, 1, 0, 1) = 0", "torn() = 3", "keep(0) = 0", "back(0) = 2", "torn() = 3", "text() = 0",
            "torn() = 3", "read(0, 2, 0, 0) = 0", "torn() = 0");
    }

    private static void count() {
        Script.run(C, "39: nothing", "count(MIN) = BAD", "count(-1) = BAD", "count(0) = 0", "count(1) = 0", "count(2) = 0", "count(3) = NONE",
            "count(4) = 0", "count(5) = 0", "count(6) = BAD", "count(MAX) = BAD");
        Script.run(C, "39: CELLS of SHEET 0 alone", "sheet(1, 0, 5) = 1", "count(3) = NONE", "sheet(0, 2, 0) = 1", "count(3) = 0",
            "sheet(0, 1, 40) = 1", "count(3) = 40", "text() = 0", "count(3) = 40");
        Script.run(C, "39: all", "text sand 0 9;sand 0 9;sand 0 9;sand 0 1;sand 0 1;sand 0 1;tide 0 0 0 2;gangs 2;"
            + "whale 0 1 1 0 1 1 0 1 1 0;whale 3 1 1 0 1 3 0;whale 5 1 1 0;", "tell(0, 0) = 1", "tell(0, 0) = 2", "tell(0, 0) = 3", "tell(0, 0) = 4",
            "tell(0, 0) = 5", "tell(0, 0) = 6", "keep(0) = 0", "keep(1) = 0", "go(0, 1) = 2", "count(4) = 2", "go(2, 10) = 2", "count(4) = 4",
            "go(11, 20) = 1", "count(0) = 6", "count(1) = 2", "count(4) = 5", "count(5) = 2", "mark(0, 0) = 9", "mark(1, 0) = 9", "count(5) = 2",
            "mark(2, 0) = 9", "count(5) = 3", "count(4) = 5", "back(0) = 0", "count(4) = 0", "count(5) = 0");
    }
}
