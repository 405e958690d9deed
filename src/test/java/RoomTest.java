import java.lang.management.ManagementFactory;

/** One run's room: what an object and its 512 dearest calls make. */
public final class RoomTest {
    private static final String TEXT = "sand 0 9;sand 0 9;sand 1 9;sand 2 9;sand 3 9;sand 0 9;rot 3;gangs 2;"
        + "whale 0 9 3 8 8 2 8 7 3 8;whale 3 9 3 1 5 1 1 9 3 1;";

    public static void main(String[] args) {
        com.sun.management.ThreadMXBean beans = (com.sun.management.ThreadMXBean) ManagementFactory.getThreadMXBean();
        long me = Thread.currentThread().getId();
        calls(Check.shore(TEXT), 2);
        long start = beans.getThreadAllocatedBytes(me);
        WeighedWhales x = new WeighedWhales();
        long made = beans.getThreadAllocatedBytes(me) - start;
        Check.tell(x, TEXT);
        start = beans.getThreadAllocatedBytes(me);
        calls(x, 512);
        long called = beans.getThreadAllocatedBytes(me) - start;
        System.out.println("RoomTest: a new object takes " + made + " bytes, calls take " + called);
        if (made > 200_000 || called > 10_000) {
            System.exit(1);
        }
    }

    private static void calls(WeighedWhales x, int times) {
        for (int i = 0; i < times; i++) {
            x.best(6, 21);
            x.worth(1, 6);
            x.salted(6);
            x.drift(i, 60, 0);
            x.sheet(i & 3, 2, 40);
            x.read(i & 3, 2, 0, 20);
            x.keep(i & 1);
            x.back(i & 1);
            x.feed(';');
            x.text();
            x.laws();
            x.whose(0);
            x.luck(0, 0);
            x.open();
        }
    }
}
