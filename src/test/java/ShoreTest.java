/** Promises 6 to 16: what there is, what is changed. */
public final class ShoreTest {
    private static final int FAR = Integer.MAX_VALUE, LOW = Integer.MIN_VALUE;
    private static final Check C = new Check();
    private static final String TEXT = "sand 0 3;sand 1 2;sand 1 5;sand 2 4;tide 1 3 5 2;rot 2;gangs 2;"
        + "whale 0 9 2 4 6 1 0;whale 2 8 1 8 5 3 1;";

    public static void main(String[] args) {
        rule();
        place();
        level();
        beast();
        part();
        partChanges();
        mark();
        own();
        law();
        rot();
        gangs();
        lump();
        C.finish("ShoreTest");
    }

    private static void rule() {
        C.in("6 rule");
        WeighedWhales x = Check.shore(TEXT + "law 3;");
        int[] due = {4, 4, 2, 3, 2, 2, 0};
        for (int i = 0; i < due.length; i++) {
            C.due("rule(" + i + ")", x.rule(i), due[i]);
        }
        x.go(Check.NONE, Check.NONE);
        C.due("rule(6)", x.rule(6), 1);
        C.due("rule(-1)", x.rule(-1), Check.BAD);
        C.due("rule(7)", x.rule(7), Check.BAD);
        C.due("rule(low)", x.rule(LOW), Check.BAD);
    }

    private static void place() {
        C.in("7 place");
        WeighedWhales x = Check.shore(TEXT);
        int[][] due = {{0, 3}, {1, 2}, {1, 5}, {2, 4}};
        for (int i = 0; i < due.length; i++) {
            C.due("place(" + i + ", 0)", x.place(i, 0), due[i][0]);
            C.due("place(" + i + ", 1)", x.place(i, 1), due[i][1]);
        }
        C.due("place(-1, 0)", x.place(-1, 0), Check.BAD);
        C.due("place(4, 0)", x.place(4, 0), Check.BAD);
        C.due("place(0, -1)", x.place(0, -1), Check.BAD);
        C.due("place(0, 2)", x.place(0, 2), Check.BAD);
        C.due("place(far, far)", x.place(FAR, FAR), Check.BAD);
    }

    private static void level() {
        C.in("8 level");
        WeighedWhales x = Check.shore(TEXT);
        int[] due = {1, 3, 5, 2};
        for (int h = 0; h <= 999; h++) {
            x = h % 300 == 0 ? Check.shore(TEXT) : x;
            C.due("level(" + h + ")", x.level(h), due[h % 4]);
        }
        C.due("level(-1)", x.level(-1), Check.BAD);
        C.due("level(1000)", x.level(1000), Check.BAD);
        C.due("level(low)", x.level(LOW), Check.BAD);
    }

    private static void beast() {
        C.in("9 beast");
        WeighedWhales x = Check.shore(TEXT);
        int[][] due = {{0, 2, 0}, {2, 2, 0}};
        for (int b = 0; b < 2; b++) {
            for (int w = 0; w < 3; w++) {
                C.due("beast(" + b + ", " + w + ")", x.beast(b, w), due[b][w]);
            }
        }
        x.go(Check.NONE, Check.NONE);
        C.due("beast(0, 2)", x.beast(0, 2), 0);
        x.go(Check.NONE, Check.NONE);
        C.due("beast(0, 2)", x.beast(0, 2), 1);
        C.due("beast(1, 2)", x.beast(1, 2), 0);
        x.go(Check.NONE, Check.NONE);
        C.due("it stays lost", x.beast(0, 2), 1);
        C.due("beast(-1, 0)", x.beast(-1, 0), Check.BAD);
        C.due("beast(2, 0)", x.beast(2, 0), Check.BAD);
        C.due("beast(0, 3)", x.beast(0, 3), Check.BAD);
        C.due("beast(0, -1)", x.beast(0, -1), Check.BAD);
    }

    private static void part() {
        C.in("10 part");
        WeighedWhales x = Check.shore(TEXT);
        int[] numbers = {0, 1, 10, 11};
        int[][] due = {{9, 2, 4, 9, 1, 0}, {6, 1, 0, 6, 1, 0}, {8, 1, 8, 8, 1, 1}, {5, 3, 1, 5, 1, 1}};
        for (int i = 0; i < numbers.length; i++) {
            for (int w = 0; w < 6; w++) {
                C.due("part(" + numbers[i] + ", " + w + ")", x.part(numbers[i], w), due[i][w]);
            }
        }
        int[] none = {-1, -4, -10, 2, 9, 12, 13, 19, 20, 30, 100, FAR, LOW};
        for (int n : none) {
            C.due("part(" + n + ", 0)", x.part(n, 0), Check.BAD);
        }
        C.due("part(0, -1)", x.part(0, -1), Check.BAD);
        C.due("part(0, 6)", x.part(0, 6), Check.BAD);
    }

    private static void partChanges() {
        C.in("10 part in later hours");
        WeighedWhales x = Check.shore(TEXT);
        x.go(0, 10);
        C.due("work is less", x.part(0, 1), 1);
        C.due("cut", x.part(10, 1), 0);
        C.due("cut can not be worked", x.part(10, 4), 0);
        C.due("worth in hour 1 by rot 2", x.part(0, 3), 9);
        C.due("its worth stays", x.part(10, 0), 8);
        C.due("hour 1: level 3, mark 3 is dry", x.part(0, 4), 1);
        C.due("hour 1: level 3, mark 2 is wet", x.part(1, 4), 0);
        x.go(Check.NONE, Check.NONE);
        C.due("worth in hour 2 by rot 2", x.part(0, 3), 8);
        C.due("lost can not be worked", x.part(0, 4), 0);
        C.due("hour 2: level 5, mark 4 is wet", x.part(11, 4), 0);
        x.go(Check.NONE, Check.NONE);
        C.due("hour 3", x.part(11, 4), 1);
        C.due("lost for good", x.part(1, 4), 0);
        Check.idle(x, 9);
        C.due("rule(6)", x.rule(6), 12);
        C.due("worth 9 in hour 12", x.part(0, 3), 3);
        C.due("worth 6 in hour 12", x.part(1, 3), 0);
        C.due("worth 5 in hour 12, 0 at least", x.part(11, 3), 0);
    }

    private static void mark() {
        C.in("11 mark");
        WeighedWhales x = Check.shore(TEXT);
        C.due("mark(0, 1)", x.mark(0, 1), 3);
        C.due("mark(0, 0)", x.mark(0, 0), 1);
        C.due("one place is dry", x.beast(0, 2), 0);
        C.due("mark(4, 0)", x.mark(4, 0), Check.BAD);
        C.due("mark(-1, 0)", x.mark(-1, 0), Check.BAD);
        C.due("mark(1, -1)", x.mark(1, -1), Check.BAD);
        C.due("mark(1, 10)", x.mark(1, 10), Check.BAD);
        C.due("place(1, 1)", x.place(1, 1), 2);
        C.due("mark(1, 0)", x.mark(1, 0), 2);
        C.due("it floats at once", x.beast(0, 2), 1);
        C.due("the other one does not", x.beast(1, 2), 0);
        C.due("mark(1, 9)", x.mark(1, 9), 0);
        C.due("lost for good", x.beast(0, 2), 1);
        C.due("wet(0)", x.wet(0), 1);
    }

    private static void own() {
        C.in("12 own");
        WeighedWhales x = Check.shore(TEXT);
        C.due("own(0, 3)", x.own(0, 3), 0);
        C.due("own(0, 2)", x.own(0, 2), 3);
        C.due("part(1, 5)", x.part(1, 5), 2);
        C.due("own(4, 0)", x.own(4, 0), Check.BAD);
        C.due("own(-1, 0)", x.own(-1, 0), Check.BAD);
        C.due("own(0, 4)", x.own(0, 4), Check.BAD);
        C.due("own(0, -1)", x.own(0, -1), Check.BAD);
        C.due("place(0, 0)", x.place(0, 0), 2);
    }

    private static void law() {
        C.in("13 law");
        WeighedWhales x = Check.shore("sand 3 9;sand 1 9;sand 0 9;whale 0 1 1 1 1 1 1 1 1 1;");
        int[][] due = {{3, 3, 3}, {0, 0, 0}, {3, 1, 0}, {0, 0, 0}};
        int was = 0;
        for (int v = 0; v < 4; v++) {
            C.due("law(" + v + ")", x.law(v), was);
            was = v;
            for (int p = 0; p < 3; p++) {
                C.due("part(" + p + ", 5) by law " + v, x.part(p, 5), due[v][p]);
            }
        }
        x.own(2, 1);
        C.due("most places, law 3", x.part(0, 5), 1);
        C.due("law(4)", x.law(4), Check.BAD);
        C.due("law(-1)", x.law(-1), Check.BAD);
        C.due("rule(3)", x.rule(3), 3);
    }

    private static void rot() {
        C.in("14 rot");
        WeighedWhales x = Check.shore(TEXT);
        Check.idle(x, 9);
        int was = 2;
        for (int v = 1; v <= 9; v++) {
            C.due("rot(" + v + ")", x.rot(v), was);
            C.due("part(0, 3)", x.part(0, 3), 9 - 9 / v);
            was = v;
        }
        C.due("rot(0)", x.rot(0), Check.BAD);
        C.due("rot(10)", x.rot(10), Check.BAD);
        C.due("rot(low)", x.rot(LOW), Check.BAD);
        C.due("rule(4)", x.rule(4), 9);
    }

    private static void gangs() {
        C.in("15 gangs");
        WeighedWhales x = Check.shore(TEXT);
        C.due("gangs(1)", x.gangs(1), 2);
        C.due("go(0, 1)", x.go(0, 1), Check.BAD);
        C.due("gangs(2)", x.gangs(2), 1);
        C.due("gangs(0)", x.gangs(0), Check.BAD);
        C.due("gangs(3)", x.gangs(3), Check.BAD);
        C.due("rule(5)", x.rule(5), 2);
        C.due("go(0, 1)", x.go(0, 1), 6);
    }

    private static void lump() {
        C.in("16 lump");
        WeighedWhales x = Check.shore(TEXT);
        C.due("lump(1, 8)", x.lump(1, 8), 0);
        C.due("lump(1, 3)", x.lump(1, 3), 8);
        C.due("part(1, 2)", x.part(1, 2), 3);
        C.due("lump(2, 3)", x.lump(2, 3), Check.BAD);
        C.due("lump(-4, 3)", x.lump(-4, 3), Check.BAD);
        C.due("lump(20, 3)", x.lump(20, 3), Check.BAD);
        C.due("lump(1, 9)", x.lump(1, 9), Check.BAD);
        C.due("lump(1, -1)", x.lump(1, -1), Check.BAD);
        C.due("part(1, 2)", x.part(1, 2), 3);
        x.go(1, Check.NONE);
        C.due("of a part that is cut", x.lump(1, 0), 3);
    }
}
