/** Promises 29 to 32: where a beast can strand, lumps, gangs by a seed. */
public final class LumpsTest {
    private static final int NONE = Check.NONE;
    private static final Check C = new Check();

    public static void main(String[] args) {
        strand();
        strandAmongBeasts();
        luck();
        luckOfCutAndLost();
        open();
        drift();
        driftByItself();
        C.finish("LumpsTest");
    }

    private static void strand() {
        C.in("29 strand");
        WeighedWhales x = Check.shore("sand 0 0;sand 0 1;sand 0 2;sand 0 3;sand 0 1;sand 0 0;tide 4 2 0 3;");
        C.due("strand(1, 0): level 4, then 2", x.strand(1, 0), 12);
        C.due("strand(2, 0)", x.strand(2, 0), 2 + 4 + 8);
        C.due("strand(3, 0)", x.strand(3, 0), 1 + 2 + 4 + 8);
        C.due("strand(1, 1): level 2, then 0", x.strand(1, 1), 1 + 2 + 16 + 32);
        C.due("strand(2, 1)", x.strand(2, 1), 1 + 16);
        C.due("strand(3, 1)", x.strand(3, 1), 0);
        C.due("strand(1, 2): level 0", x.strand(1, 2), 0);
        C.due("strand(1, 3): level 3, then 4", x.strand(1, 3), 0);
        C.due("strand(1, 996)", x.strand(1, 996), 12);
        C.due("strand(1, 998)", x.strand(1, 998), 0);
        C.due("strand(1, 997)", x.strand(1, 997), 51);
        C.due("strand(0, 0)", x.strand(0, 0), Check.BAD);
        C.due("strand(4, 0)", x.strand(4, 0), Check.BAD);
        C.due("strand(1, -1)", x.strand(1, -1), Check.BAD);
        C.due("strand(1, 999)", x.strand(1, 999), Check.BAD);
        C.due("longer than the shore", Check.shore("sand 0 0;sand 0 0;tide 1 0;").strand(3, 0), 0);
        C.due("as long as the shore", Check.shore("sand 0 0;sand 0 0;tide 1 0;").strand(2, 0), 1);
    }

    private static void strandAmongBeasts() {
        C.in("29 strand among beasts");
        WeighedWhales x = Check.shore("sand 0 0;sand 0 0;sand 0 9;sand 0 0;sand 0 0;tide 0 1;whale 1 1 1 0 1 1 0;whale 4 1 1 0;");
        C.due("strand(1, 1)", x.strand(1, 1), 1 + 8);
        C.due("strand(2, 1)", x.strand(2, 1), 0);
        x.go(1, NONE);
        C.due("beast 1 is lost", x.count(5), 1);
        C.due("strand(1, 1)", x.strand(1, 1), 1 + 8 + 16);
        C.due("strand(2, 1)", x.strand(2, 1), 8);
        x.go(NONE, NONE);
        x.go(0, NONE);
        C.due("all of beast 0 is cut, but it lies there", x.count(4), 2);
        C.due("strand(1, 1)", x.strand(1, 1), 1 + 8 + 16);
    }

    private static void luckIs(WeighedWhales x, int b, long up, long down) {
        C.due("luck(" + b + ", 0)", x.luck(b, 0), up);
        C.due("luck(" + b + ", 1)", x.luck(b, 1), down);
    }

    private static void luck() {
        C.in("30 luck");
        WeighedWhales x = Check.shore("sand 0 9;sand 0 9;sand 0 9;sand 0 9;sand 0 9;whale 0 1 1 1 1 1 1 1 1 1;whale 3 1 1 0;whale 4 1 1 8;");
        luckIs(x, 0, 169, 512);
        luckIs(x, 1, 0, 1);
        luckIs(x, 2, 1, 1);
        x.lump(0, 4);
        x.lump(1, 4);
        x.lump(2, 0);
        luckIs(x, 0, 3, 4);
        x.lump(1, 2);
        luckIs(x, 0, 5, 8);
        x.lump(2, 8);
        luckIs(x, 0, 1, 1);
        C.due("luck(-1, 0)", x.luck(-1, 0), Check.BAD);
        C.due("luck(3, 0)", x.luck(3, 0), Check.BAD);
        C.due("luck(0, 2)", x.luck(0, 2), Check.BAD);
        C.due("luck(0, -1)", x.luck(0, -1), Check.BAD);
    }

    private static void luckOfCutAndLost() {
        C.in("30 luck of what is cut or lost");
        WeighedWhales x = Check.shore("sand 0 9;sand 0 0;tide 0 0 1;whale 0 1 1 4;whale 1 1 2 3;");
        x.go(0, NONE);
        luckIs(x, 0, 0, 1);
        luckIs(x, 1, 3, 8);
        x.go(10, NONE);
        C.due("lost", x.beast(1, 2), 1);
        luckIs(x, 1, 0, 1);
    }

    private static void open() {
        C.in("31 open");
        C.due("no beasts", new WeighedWhales().open(), NONE);
        WeighedWhales x = Check.shore("sand 0 9;sand 0 9;sand 0 3;sand 0 9;tide 0 0 0 4;whale 0 1 2 2 1 3 4 1 1 1;whale 3 1 3 4;");
        C.due("4 for 3 hours is more than 2 for 2", x.open(), 1);
        x.lump(1, 3);
        C.due("alike: the first", x.open(), 10);
        x.lump(10, 3);
        C.due("alike: the first", x.open(), 0);
        x.lump(2, 2);
        C.due("2 for 1 hour", x.open(), 2);
        x.go(NONE, NONE);
        x.go(NONE, NONE);
        x.go(NONE, NONE);
        C.due("it is wet", x.open(), 0);
        x.go(10, NONE);
        C.due("less work is left", x.open(), 2);
        x.lump(2, 1);
        C.due("3 for 2 hours", x.open(), 10);
        for (int n : new int[] {0, 1, 2, 10}) {
            x.lump(n, 0);
        }
        C.due("no lumps: the first that can be worked", x.open(), 0);
        WeighedWhales y = Check.shore("sand 0 9;whale 0 1 1 8;");
        y.go(0, NONE);
        C.due("all is cut", y.open(), NONE);
    }

    private static void drift() {
        C.in("32 drift");
        WeighedWhales x = Check.shore("sand 0 3;sand 1 2;sand 1 5;sand 2 4;tide 1 3 5 2;rot 2;gangs 2;whale 0 9 2 4 6 1 0;whale 2 8 1 8 5 3 1;");
        x.go(0, 10);
        x.go(11, NONE);
        x.gangs(1);
        C.due("drift(7, 9, 0)", x.drift(7, 9, 0), 3);
        C.due("drift(7, 9, 1)", x.drift(7, 9, 1), 1);
        C.due("drift(-3, 60, 0)", x.drift(-3, 60, 0), 3);
        // seed 0 becomes 12345, 1406932606, 654583775: bits 16 to 30 are 0, 21468, 9988,
        // modulo 4, 3, 2 always 0, so the first part that is left is worked
        WeighedWhales y = Check.shore("sand 0 9;sand 0 9;sand 0 9;rot 9;whale 0 1 1 0 2 1 0 4 1 0;");
        C.due("drift(0, 1, 0)", y.drift(0, 1, 0), 1);
        C.due("drift(0, 2, 0)", y.drift(0, 2, 0), 3);
        C.due("drift(0, 3, 0)", y.drift(0, 3, 0), 7);
        // seed 1 becomes 1103527590: bits 16 to 30 are 16838, modulo 4 it is 2: the third part
        C.due("drift(1, 1, 0)", y.drift(1, 1, 0), 4);
        // seed 3 becomes -984409216: bits 16 to 30 are 17747, modulo 4 it is 3: none
        C.due("drift(3, 1, 0)", y.drift(3, 1, 0), 0);
        C.due("drift(0, 0, 0)", y.drift(0, 0, 0), Check.BAD);
        C.due("drift(0, 61, 0)", y.drift(0, 61, 0), Check.BAD);
        C.due("drift(0, -1, 0)", y.drift(0, -1, 0), Check.BAD);
        C.due("drift(0, 1, 2)", y.drift(0, 1, 2), Check.BAD);
        C.due("drift(0, 1, -1)", y.drift(0, 1, -1), Check.BAD);
    }

    private static void driftByItself() {
        C.in("32 drift by itself");
        WeighedWhales x = Check.shore("sand 0 9;sand 0 1;sand 0 1;tide 0 2;whale 0 5 1 0;whale 1 3 3 0;whale 2 3 3 0;");
        C.due("two are lost", x.drift(0, 1, 1), 2);
        C.due("drift", x.drift(0, 60, 0) >= 0 ? 1 : 0, 1);
        C.due("rule(6)", x.rule(6), 0);
        C.due("part(0, 1)", x.part(0, 1), 1);
        C.due("part(10, 1)", x.part(10, 1), 3);
        C.due("count(4)", x.count(4), 0);
        C.due("count(5)", x.count(5), 0);
        C.due("has(0)", x.has(0), 0);
        C.due("none of them at all", new WeighedWhales().drift(5, 60, 1), 0);
    }
}
