import java.util.function.IntSupplier;

/**
 * The document's first lines: an object is used for at most 512 calls after it has been made. All of these answer as
 * due, whatever the calls ahead were: what one call leaves behind in rows that are used again does not reach another.
 */
public final class CallsTest {
    private static final Check C = new Check();
    private static final int MOST_CALLS = 512;
    private static final String ONE_GANG = "sand 0 5;sand 1 4;sand 2 9;tide 0 3 5;whale 0 9 2 4 6 1 1;whale 2 8 3 8;";
    private static final String TWO_GANGS = "gangs 2;sand 0 9;sand 1 9;sand 2 6;tide 0 8;whale 0 9 3 1 7 2 2;whale 2 9 1 8;";

    /** An object whose calls are counted. */
    private final WeighedWhales x = new WeighedWhales();
    private int calls = 0;

    public static void main(String[] args) {
        bestRows(ONE_GANG);
        bestRows(TWO_GANGS);
        bestRowsFromHourToHour();
        saltedBehindSalted();
        seeds();
        texts();
        told();
        imagesAndHours();
        sheets();
        C.finish("CallsTest");
    }

    private CallsTest(String text) {
        told(text);
    }

    private boolean isUsedUp(int more) {
        return calls + more > MOST_CALLS;
    }

    private void due(String call, long got, long want) {
        calls++;
        if (calls > MOST_CALLS) {
            throw new IllegalStateException("more than " + MOST_CALLS + " calls");
        }
        C.due("call " + calls + ", " + call, got, want);
    }

    private void told(String text) {
        for (int i = 0; i < text.length(); i++) {
            due("feed", x.feed(text.charAt(i)), i + 1);
        }
        due("text()", x.text(), text.chars().filter(c -> c == ';').count());
    }

    /** The calls that are left. */
    private void toTheLast(String call, IntSupplier ask, long due) {
        while (!isUsedUp(1)) {
            due(call, ask.getAsInt(), due);
        }
        C.due("calls", calls, MOST_CALLS);
    }

    /** Each answer is that of an object which was asked nothing before. */
    private static void bestRows(String text) {
        C.in("best and worth, to the 512th call, of " + text);
        CallsTest t = new CallsTest(text);
        int rot = 4;
        for (int i = 0; !t.isUsedUp(4); i++) {
            int next = 1 + i % 9;
            t.due("rot", t.x.rot(next), rot);
            rot = next;
            int n = i % 7;
            t.due("best(" + n + ", 0), ROT " + rot, t.x.best(n, 0), by(text, rot).best(n, 0));
            int what = 10 + i % 13;
            t.due("best(" + n + ", " + what + "), ROT " + rot, t.x.best(n, what), by(text, rot).best(n, what));
            t.due("worth(" + i % 3 + ", " + n + "), ROT " + rot, t.x.worth(i % 3, n), by(text, rot).worth(i % 3, n));
        }
        t.toTheLast("best(6, 0)", () -> t.x.best(6, 0), by(text, rot).best(6, 0));
    }

    private static WeighedWhales by(String text, int rot) {
        WeighedWhales y = Check.shore(text);
        y.rot(rot);
        return y;
    }

    /** Three PARTS of WORTH 9, 6, 3: what is left is told by hand. */
    private static void bestRowsFromHourToHour() {
        C.in("best, to the 512th call, from HOUR to HOUR and back");
        CallsTest t = new CallsTest("sand 0 9;sand 0 9;sand 0 9;rot 9;whale 0 9 1 0 6 1 0 3 1 0;");
        t.due("keep(0)", t.x.keep(0), 0);
        while (!t.isUsedUp(11)) {
            t.due("best(6, 0)", t.x.best(6, 0), 18);
            t.due("best(2, 0)", t.x.best(2, 0), 15);
            t.due("go", t.x.go(0, Check.NONE), 9);
            t.due("best(6, 0)", t.x.best(6, 0), 9);
            t.due("best(1, 10)", t.x.best(1, 10), 1);
            t.due("worth(0, 1)", t.x.worth(0, 1), 6);
            t.due("go", t.x.go(1, Check.NONE), 6);
            t.due("best(6, 0)", t.x.best(6, 0), 3);
            t.due("best(6, 10)", t.x.best(6, 10), 2);
            t.due("best(6, 12)", t.x.best(6, 12), Check.NONE);
            t.due("back(0)", t.x.back(0), 0);
        }
        t.toTheLast("best(6, 0)", () -> t.x.best(6, 0), 18);
    }

    /** WORTH 9 and WORK 3: the third HOUR is HOUR 2, so ROT 3 wins all of it, ROT 2 does not. */
    private static void saltedBehindSalted() {
        C.in("salted, to the 512th call");
        CallsTest t = new CallsTest("sand 0 9;whale 0 9 3 0;");
        while (!t.isUsedUp(2)) {
            t.due("salted(3)", t.x.salted(3), 3);
            t.due("salted(2)", t.x.salted(2), 1);
        }
        t.toTheLast("salted(3)", () -> t.x.salted(3), 3);
    }

    private static void seeds() {
        C.in("drift, to the 512th call");
        CallsTest t = new CallsTest(ONE_GANG);
        for (int i = 0; !t.isUsedUp(2); i++) {
            int seed = i / 3 * 7919;
            t.due("drift(" + seed + ", 9, 0)", t.x.drift(seed, 9, 0), Check.shore(ONE_GANG).drift(seed, 9, 0));
            t.due("drift(" + seed + ", 9, 1)", t.x.drift(seed, 9, 1), Check.shore(ONE_GANG).drift(seed, 9, 1));
        }
        t.toTheLast("drift(3, 9, 0)", () -> t.x.drift(3, 9, 0), Check.shore(ONE_GANG).drift(3, 9, 0));
    }

    private static void texts() {
        C.in("text, to the 512th call");
        CallsTest t = new CallsTest("rot 1;");
        for (int i = 0; !t.isUsedUp(18); i++) {
            t.told("law " + i % 4 + ";");
            t.due("rule(3)", t.x.rule(3), i % 4);
            t.due("rule(4)", t.x.rule(4), 4);
            t.due("feed", t.x.feed('!'), 1);
            t.due("feed", t.x.feed('!'), 2);
            t.due("end(1)", t.x.end(1), 2);
            t.due("text()", t.x.text(), -10);
            t.due("fault()", t.x.fault(), 1);
            t.due("rule(3)", t.x.rule(3), i % 4);
            t.due("text()", t.x.text(), 0);
            t.due("fault()", t.x.fault(), 0);
        }
        t.toTheLast("text()", t.x::text, 0);
    }

    private static void told() {
        C.in("tell, forget, laws, whose, to the 512th call");
        CallsTest t = new CallsTest("sand 0 9;sand 1 9;whale 0 5 1 0 4 1 0;");
        while (!t.isUsedUp(8)) {
            t.due("laws()", t.x.laws(), 15);
            t.due("tell(1, 4)", t.x.tell(1, 4), 1);
            t.due("laws()", t.x.laws(), 4);
            t.due("whose(1)", t.x.whose(1), 0);
            t.due("tell(1, 9)", t.x.tell(1, 9), 2);
            t.due("laws()", t.x.laws(), 0);
            t.due("forget(1)", t.x.forget(1), 2);
            t.due("forget(0)", t.x.forget(0), 1);
        }
        t.toTheLast("laws()", t.x::laws, 15);
    }

    private static void imagesAndHours() {
        C.in("keep, go, back, to the 512th call");
        CallsTest t = new CallsTest("sand 3 9;rot 1;whale 0 9 1 0;");
        t.due("keep(0)", t.x.keep(0), 0);
        t.due("go", t.x.go(Check.NONE, Check.NONE), 0);
        t.due("keep(1)", t.x.keep(1), 0);
        while (!t.isUsedUp(8)) {
            t.due("go", t.x.go(0, Check.NONE), 8);
            t.due("has(3)", t.x.has(3), 8);
            t.due("count(4)", t.x.count(4), 1);
            t.due("back(0)", t.x.back(0), 0);
            t.due("go", t.x.go(0, Check.NONE), 9);
            t.due("go", t.x.go(0, Check.NONE), Check.STATE);
            t.due("has(3)", t.x.has(3), 9);
            t.due("back(1)", t.x.back(1), 1);
        }
        t.toTheLast("back(1)", () -> t.x.back(1), 1);
    }

    private static void sheets() {
        C.in("sheet, lay, read, torn, to the 512th call");
        CallsTest t = new CallsTest("sand 0 9;");
        for (int i = 0; !t.isUsedUp(7); i++) {
            int k = i % 4;
            int lane = i % 3;
            t.due("sheet", t.x.sheet(k, lane, 2), 1);
            t.due("read", t.x.read(k, lane, 0, 1), -20);
            t.due("lay", t.x.lay(k, 1, Check.NONE), 1);
            t.due("read", t.x.read(k, lane, 1, 2), 1);
            t.due("torn()", t.x.torn(), 2);
            t.due("read", t.x.read(k, (lane + 1) % 3, 0, 1), 0);
            t.due("torn()", t.x.torn(), 3);
        }
        t.toTheLast("torn()", t.x::torn, 3);
    }
}
