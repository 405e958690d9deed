/** Promises 33 to 39: images, sheets, counts. */
public final class SheetsTest {
    private static final int NONE = Check.NONE;
    private static final Check C = new Check();
    private static final String TEXT = "sand 0 5;sand 1 5;whale 0 3 3 0 7 1 8;";

    public static void main(String[] args) {
        keep();
        back();
        sheet();
        lay();
        read();
        readLanes();
        readFaults();
        readRefused();
        torn();
        count();
        C.finish("SheetsTest");
    }

    private static void keep() {
        C.in("33 keep");
        WeighedWhales x = Check.shore(TEXT);
        C.due("keep(-1)", x.keep(-1), Check.BAD);
        C.due("keep(2)", x.keep(2), Check.BAD);
        C.due("keep(1)", x.keep(1), 0);
        C.due("count(1)", x.count(1), 1);
        C.due("keep(1)", x.keep(1), 1);
        C.due("keep(0)", x.keep(0), 0);
        C.due("count(1)", x.count(1), 2);
        x.go(1, NONE);
        C.due("keep(0)", x.keep(0), 1);
        C.due("back(1)", x.back(1), 0);
        C.due("has(0)", x.has(0), 0);
        C.due("back(0)", x.back(0), 1);
        C.due("has(0)", x.has(0), 7);
    }

    private static void back() {
        C.in("34 back");
        WeighedWhales x = Check.shore(TEXT + "tide 0 0 9;gangs 2;");
        C.due("back(-1)", x.back(-1), Check.BAD);
        C.due("back(2)", x.back(2), Check.BAD);
        C.due("back(0)", x.back(0), Check.STATE);
        x.go(1, 0);
        x.keep(0);
        C.due("back(1)", x.back(1), Check.STATE);
        x.tell(1, 3);
        x.sheet(0, 0, 5);
        x.feed(65);
        x.mark(0, 8);
        x.own(0, 3);
        x.law(2);
        x.rot(9);
        x.lump(0, 5);
        x.go(0, NONE);
        x.gangs(1);
        C.due("lost", x.beast(0, 2), 1);
        C.due("back(0)", x.back(0), 1);
        int[] rules = {2, 3, 1, 0, 4, 2, 1};
        for (int i = 0; i < rules.length; i++) {
            C.due("rule(" + i + ")", x.rule(i), rules[i]);
        }
        C.due("place(0, 0)", x.place(0, 0), 0);
        C.due("place(0, 1)", x.place(0, 1), 5);
        C.due("beast(0, 2)", x.beast(0, 2), 0);
        C.due("part(0, 1)", x.part(0, 1), 2);
        C.due("part(1, 1)", x.part(1, 1), 0);
        C.due("part(0, 2)", x.part(0, 2), 0);
        C.due("has(0)", x.has(0), 7);
        C.due("told stay", x.count(0), 1);
        C.due("sheets stay", x.count(3), 5);
        C.due("the tape stays", x.count(2), 1);
        x.go(0, NONE);
        C.due("the image stays", x.back(0), 1);
    }

    private static void sheet() {
        C.in("35 sheet");
        WeighedWhales x = new WeighedWhales();
        C.due("sheet(-1, 0, 0)", x.sheet(-1, 0, 0), Check.BAD);
        C.due("sheet(4, 0, 0)", x.sheet(4, 0, 0), Check.BAD);
        C.due("sheet(0, -1, 0)", x.sheet(0, -1, 0), Check.BAD);
        C.due("sheet(0, 3, 0)", x.sheet(0, 3, 0), Check.BAD);
        C.due("sheet(0, 0, 41)", x.sheet(0, 0, 41), Check.BAD);
        C.due("sheet(0, 0, -1)", x.sheet(0, 0, -1), -14);
        C.due("sheet(0, 0, low)", x.sheet(0, 0, Integer.MIN_VALUE), -14);
        C.due("BAD ahead of SIZE", x.sheet(4, 0, -1), Check.BAD);
        C.due("BAD ahead of SIZE", x.sheet(0, 3, -1), Check.BAD);
        C.due("count(3)", x.count(3), NONE);
        C.due("sheet(0, 0, 0)", x.sheet(0, 0, 0), 1);
        C.due("count(3)", x.count(3), 0);
        C.due("sheet(0, 2, 40)", x.sheet(0, 2, 40), 1);
        C.due("count(3)", x.count(3), 40);
        C.due("sheet(0, 1, -1)", x.sheet(0, 1, -1), -14);
        C.due("sheet(0, 1, 41)", x.sheet(0, 1, 41), Check.BAD);
        C.due("it stays", x.count(3), 40);
        C.due("the others have nothing", x.lay(1, 0, 0), -11);
        WeighedWhales y = Check.shore(TEXT);
        y.sheet(2, 0, 3);
        y.lay(2, 0, 1);
        y.sheet(2, 0, 3);
        y.read(2, 0, 0, 1);
        C.due("new cells are 0: the head is worked", y.part(0, 1), 2);
    }

    private static void lay() {
        C.in("36 lay");
        WeighedWhales x = Check.shore(TEXT);
        C.due("lay(-1, 0, 0)", x.lay(-1, 0, 0), Check.BAD);
        C.due("lay(4, 0, 0)", x.lay(4, 0, 0), Check.BAD);
        C.due("lay(0, 0, 0)", x.lay(0, 0, 0), -11);
        C.due("NULL ahead of INDEX", x.lay(0, -1, 0), -11);
        x.sheet(0, 0, 2);
        C.due("lay(0, -1, 0)", x.lay(0, -1, 0), -12);
        C.due("lay(0, 2, 0)", x.lay(0, 2, 0), -12);
        C.due("lay(0, far, 0)", x.lay(0, Integer.MAX_VALUE, 0), -12);
        C.due("lay(0, 1, 1)", x.lay(0, 1, 1), 1);
        x.sheet(1, 0, 0);
        C.due("no cells", x.lay(1, 0, 0), -12);
        C.due("read(0, 0, 1, 1)", x.read(0, 0, 1, 1), 1);
        C.due("part(1, 1)", x.part(1, 1), 0);
    }

    private static void read() {
        C.in("37 read");
        WeighedWhales x = Check.shore(TEXT + "gangs 2;");
        x.sheet(1, 1, 4);
        x.lay(1, 0, 0);
        x.lay(1, 1, NONE);
        x.lay(1, 2, 0);
        x.lay(1, 3, 1);
        C.due("read(1, 1, 0, 0)", x.read(1, 1, 0, 0), 0);
        C.due("rule(6)", x.rule(6), 0);
        C.due("read(1, 1, 0, 2)", x.read(1, 1, 0, 2), 2);
        C.due("torn()", x.torn(), 0);
        C.due("rule(6)", x.rule(6), 2);
        C.due("part(0, 1)", x.part(0, 1), 2);
        C.due("read(1, 1, 2, 3)", x.read(1, 1, 2, 3), 2);
        C.due("torn()", x.torn(), 2);
        C.due("has(0)", x.has(0), 7);
        C.due("rule(6)", x.rule(6), 4);
        C.due("20 hours", idle(x, 20), 20);
        C.due("rule(6)", x.rule(6), 24);
        C.due("read(-1, 0, 0, 0)", x.read(-1, 0, 0, 0), Check.BAD);
        C.due("read(4, 0, 0, 0)", x.read(4, 0, 0, 0), Check.BAD);
        C.due("read(0, -1, 0, 0)", x.read(0, -1, 0, 0), Check.BAD);
        C.due("read(0, 3, 0, 0)", x.read(0, 3, 0, 0), Check.BAD);
        C.due("read(0, 0, 0, -1)", x.read(0, 0, 0, -1), Check.BAD);
        C.due("read(0, 0, 0, 21)", x.read(0, 0, 0, 21), Check.BAD);
        C.due("rule(6)", x.rule(6), 24);
    }

    private static int idle(WeighedWhales x, int n) {
        x.sheet(0, 2, 40);
        for (int i = 0; i < 40; i++) {
            x.lay(0, i, NONE);
        }
        return x.read(0, 2, 15, n);
    }

    private static void readLanes() {
        C.in("36 lay, its lowest bits");
        int[][] rows = {{0, 257, 1}, {0, -255, 1}, {0, 252, NONE}, {1, 65537, 1}, {1, 65532, NONE}, {2, 1, 1}, {2, -4, NONE}};
        for (int[] row : rows) {
            WeighedWhales x = Check.shore(TEXT);
            x.sheet(0, row[0], 1);
            x.lay(0, 0, row[1]);
            C.due("read of " + row[1] + " in lane " + row[0], x.read(0, row[0], 0, 1), 1);
            C.due("part(1, 1)", x.part(1, 1), row[2] == 1 ? 0 : 1);
        }
        int[][] wrong = {{0, 128}, {0, 255}, {1, 257}, {1, 252}, {1, 32768}, {2, 65537}, {2, 65532}, {2, 257}};
        for (int[] row : wrong) {
            WeighedWhales x = Check.shore(TEXT);
            x.sheet(0, row[0], 1);
            x.lay(0, 0, row[1]);
            C.due("read of " + row[1] + " in lane " + row[0], x.read(0, row[0], 0, 1), -20);
        }
    }

    private static void readFaults() {
        C.in("37 read, what the machine refuses");
        WeighedWhales x = Check.shore(TEXT);
        x.sheet(1, 1, 2);
        x.lay(1, 0, 1);
        x.lay(1, 1, NONE);
        int[][] rows = {{2, 1, 0, 1, 1}, {2, 0, -1, 1, 1}, {1, 0, 0, 1, 3}, {1, 2, 0, 1, 3}, {1, 2, 9, 1, 3},
            {1, 1, -1, 1, 2}, {1, 1, 2, 1, 2}, {1, 1, Integer.MAX_VALUE, 20, 2}, {1, 1, Integer.MIN_VALUE, 20, 2}};
        for (int[] row : rows) {
            String call = "read(" + row[0] + ", " + row[1] + ", " + row[2] + ", " + row[3] + ")";
            C.due(call, x.read(row[0], row[1], row[2], row[3]), 0);
            C.due("torn() of " + call, x.torn(), row[4]);
            C.due("rule(6)", x.rule(6), 0);
        }
        C.due("those ahead went", x.read(1, 1, 0, 20), 2);
        C.due("torn()", x.torn(), 2);
        C.due("part(1, 1)", x.part(1, 1), 0);
        C.due("rule(6)", x.rule(6), 2);
        C.due("no hours of nothing", x.read(2, 0, 0, 0), 0);
        C.due("torn()", x.torn(), 0);
    }

    private static void readRefused() {
        C.in("37 read, what go() refuses");
        WeighedWhales x = Check.shore(TEXT + "tide 0 0 6;");
        x.sheet(0, 2, 4);
        x.lay(0, 0, 1);
        x.lay(0, 1, 0);
        x.lay(0, 2, 0);
        x.lay(0, 3, 77);
        C.due("STATE: it is lost", x.read(0, 2, 0, 3), -22);
        C.due("rule(6)", x.rule(6), 0);
        C.due("part(1, 1)", x.part(1, 1), 1);
        C.due("part(0, 1)", x.part(0, 1), 3);
        C.due("has(0)", x.has(0), 0);
        C.due("beast(0, 2)", x.beast(0, 2), 0);
        C.due("BAD", x.read(0, 2, 3, 1), -20);
        C.due("the first met", x.read(0, 2, 3, 2), -20);
        x.lay(0, 2, NONE);
        C.due("BAD, the fourth", x.read(0, 2, 0, 4), -23);
        C.due("rule(6)", x.rule(6), 0);
        x.lay(0, 3, NONE);
        C.due("read", x.read(0, 2, 0, 4), 4);
        C.due("has(0)", x.has(0), 7);
        C.due("cut is refused", x.read(0, 2, 0, 1), -20);
        Check.idle(x, 994);
        C.due("rule(6)", x.rule(6), 998);
        C.due("FULL", x.read(0, 2, 2, 2), -21);
        C.due("rule(6)", x.rule(6), 998);
    }

    private static void torn() {
        C.in("38 torn");
        WeighedWhales x = Check.shore(TEXT);
        C.due("torn()", x.torn(), 0);
        x.read(0, 0, 0, 1);
        C.due("torn()", x.torn(), 1);
        x.read(0, 0, 0, 21);
        C.due("BAD came to no end", x.torn(), 1);
        x.sheet(0, 0, 2);
        x.lay(0, 0, 9);
        x.lay(0, 1, NONE);
        x.read(0, 0, 0, 1);
        C.due("what go() refused came to no end", x.torn(), 1);
        x.read(0, 0, 1, 1);
        C.due("torn()", x.torn(), 0);
        x.read(0, 1, 0, 1);
        C.due("torn()", x.torn(), 3);
        Check.tell(x, "");
        C.due("a text leaves it", x.torn(), 3);
        x.lay(0, 9, 0);
        x.sheet(0, 0, -1);
        C.due("so do lay() and sheet()", x.torn(), 3);
    }

    private static void count() {
        C.in("39 count");
        WeighedWhales x = Check.shore("sand 0 9;sand 0 1;tide 0 0 2;whale 0 3 1 0;whale 1 3 1 0;");
        x.tell(0, 0);
        x.tell(1, 0);
        x.keep(1);
        x.feed(1);
        x.feed(1);
        x.feed(1);
        x.sheet(0, 2, 6);
        x.sheet(1, 2, 9);
        x.go(0, NONE);
        x.go(NONE, NONE);
        int[] due = {2, 1, 3, 6, 1, 1};
        for (int i = 0; i < due.length; i++) {
            C.due("count(" + i + ")", x.count(i), due[i]);
        }
        C.due("count(-1)", x.count(-1), Check.BAD);
        C.due("count(6)", x.count(6), Check.BAD);
        C.due("count(low)", x.count(Integer.MIN_VALUE), Check.BAD);
    }
}
