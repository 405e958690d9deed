/** Promises 17 to 20: hours. */
public final class HoursTest {
    private static final int NONE = Check.NONE;
    private static final Check C = new Check();
    private static final String TEXT = "sand 0 3;sand 1 2;sand 1 5;sand 2 4;tide 1 3 5 2;rot 2;gangs 2;"
        + "whale 0 9 2 4 6 1 0;whale 2 8 1 8 5 3 1;";

    public static void main(String[] args) {
        goWins();
        goRefuses();
        goIsFull();
        wet();
        floats();
        has();
        C.finish("HoursTest");
    }

    private static void goWins() {
        C.in("17 go");
        WeighedWhales x = Check.shore(TEXT);
        C.due("go(0, 10)", x.go(0, 10), 8);
        C.due("rule(6)", x.rule(6), 1);
        C.due("part(0, 1)", x.part(0, 1), 1);
        C.due("go(NONE, 0)", x.go(NONE, 0), 9);
        C.due("count(4)", x.count(4), 2);
        C.due("beast 0 is lost though a part is cut", x.count(5), 1);
        C.due("go(NONE, NONE)", x.go(NONE, NONE), 0);
        C.due("go(11, NONE)", x.go(11, NONE), 0);
        C.due("go(NONE, 11)", x.go(NONE, 11), 0);
        C.due("rule(6)", x.rule(6), 5);
        C.due("part(11, 1)", x.part(11, 1), 1);
        C.due("hour 5: worth 5 less 5 by 2", x.go(11, NONE), 3);
        C.due("has(0)", x.has(0), 9);
        C.due("has(1)", x.has(1), 11);
        C.due("both win", Check.shore("sand 0 9;sand 1 9;gangs 2;whale 0 4 1 0 5 1 0;").go(1, 0), 9);
        WeighedWhales law = Check.shore("sand 0 9;sand 1 9;gangs 2;law 2;whale 0 4 1 0 5 1 0;");
        law.go(1, 0);
        C.due("each its own: has(0)", law.has(0), 4);
        C.due("each its own: has(1)", law.has(1), 5);
    }

    private static void goRefuses() {
        C.in("17 go refused");
        WeighedWhales x = Check.shore(TEXT);
        int[] none = {-1, -2, -3, -5, 2, 9, 12, 20, 21, Integer.MAX_VALUE, Integer.MIN_VALUE};
        for (int n : none) {
            C.due("go(" + n + ", NONE)", x.go(n, NONE), Check.BAD);
            C.due("go(NONE, " + n + ")", x.go(NONE, n), Check.BAD);
        }
        C.due("alike", x.go(0, 0), Check.BAD);
        C.due("rule(6)", x.rule(6), 0);
        C.due("part(0, 1)", x.part(0, 1), 2);
        x.go(10, NONE);
        C.due("cut", x.go(10, NONE), Check.STATE);
        C.due("the other one cut", x.go(11, 10), Check.STATE);
        C.due("alike ahead of cut", x.go(10, 10), Check.BAD);
        C.due("wet", x.go(1, NONE), Check.STATE);
        C.due("unknown ahead of wet", x.go(1, 7), Check.BAD);
        x.gangs(1);
        C.due("y of one gang", x.go(NONE, 0), Check.BAD);
        C.due("y of one gang, wet", x.go(0, 1), Check.BAD);
        C.due("rule(6)", x.rule(6), 1);
        C.due("part(11, 1)", x.part(11, 1), 3);
        x.go(NONE, NONE);
        C.due("lost", x.go(0, NONE), Check.STATE);
        x.go(NONE, NONE);
        C.due("lost, though dry again", x.go(0, NONE), Check.STATE);
        C.due("has(1)", x.has(1), 8);
    }

    private static void goIsFull() {
        C.in("17 go full");
        WeighedWhales x = Check.shore(TEXT);
        x.go(10, NONE);
        Check.idle(x, 997);
        C.due("rule(6)", x.rule(6), 998);
        C.due("the 999th", x.go(NONE, NONE), 0);
        C.due("rule(6)", x.rule(6), 999);
        C.due("the 1000th", x.go(NONE, NONE), Check.FULL);
        C.due("the 1000th, worked", x.go(11, NONE), Check.FULL);
        C.due("STATE ahead of FULL", x.go(10, NONE), Check.STATE);
        C.due("BAD ahead of FULL", x.go(12, NONE), Check.BAD);
        C.due("rule(6)", x.rule(6), 999);
        C.due("part(11, 1)", x.part(11, 1), 3);
        C.due("read", x.read(3, 0, 0, 1), -20);
        C.due("part(11, 3)", x.part(11, 3), 0);
        C.due("best(6, 10): a row goes on, beyond what goes", x.best(6, 10), 11);
        C.due("drift", x.drift(1, 60, 1), 1);
    }

    private static void wet() {
        C.in("18 wet");
        WeighedWhales x = Check.shore(TEXT);
        int[] due = {0, 2, 11, 0};
        for (int h = 0; h < 1000; h++) {
            x = h % 300 == 0 ? Check.shore(TEXT) : x;
            C.due("wet(" + h + ")", x.wet(h), due[h % 4]);
        }
        x.mark(3, 0);
        C.due("wet(0)", x.wet(0), 8);
        C.due("wet(-1)", x.wet(-1), Check.BAD);
        C.due("wet(1000)", x.wet(1000), Check.BAD);
    }

    private static void floats() {
        C.in("19 floats");
        WeighedWhales x = Check.shore(TEXT);
        C.due("floats(0)", x.floats(0), 2);
        C.due("floats(1)", x.floats(1), NONE);
        C.due("floats(2)", x.floats(2), Check.BAD);
        C.due("floats(-1)", x.floats(-1), Check.BAD);
        x.mark(2, 4);
        C.due("floats(1)", x.floats(1), 2);
        x.go(NONE, NONE);
        C.due("floats(0)", x.floats(0), 2);
        x.go(NONE, NONE);
        C.due("floats(0)", x.floats(0), Check.STATE);
        C.due("floats(1)", x.floats(1), Check.STATE);
        WeighedWhales y = Check.shore("sand 0 5;tide 1 2 3 4 5 6;whale 0 1 1 1;");
        C.due("floats(0)", y.floats(0), 5);
        WeighedWhales z = Check.shore("sand 0 5;sand 0 9;tide 6;whale 0 1 1 1 1 1 1;");
        Check.idle(z, 30);
        C.due("one place is dry", z.floats(0), NONE);
    }

    private static void has() {
        C.in("20 has");
        WeighedWhales x = Check.shore(TEXT + "law 2;");
        for (int o = 0; o < 4; o++) {
            C.due("has(" + o + ")", x.has(o), 0);
        }
        x.go(1, 10);
        C.due("has(1)", x.has(1), 14);
        x.law(0);
        C.due("what is won stays", x.has(1), 14);
        C.due("has(0)", x.has(0), 0);
        C.due("has(-1)", x.has(-1), Check.BAD);
        C.due("has(4)", x.has(4), Check.BAD);
    }
}
