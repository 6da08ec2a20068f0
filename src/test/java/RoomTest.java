import java.lang.management.ManagementFactory;

/** One run of the dearest calls stays far inside the room: what it makes is made with the object. */
public final class RoomTest {
    // The room holds 7.3 million fields and elements; a tenth of it, at 8 bytes each.
    private static final long MOST_BYTES = 7_300_000L / 10 * 8;
    private static final Due due = new Due();

    public static void main(String[] args) {
        due.about("room");
        run();
        com.sun.management.ThreadMXBean beans = (com.sun.management.ThreadMXBean) ManagementFactory.getThreadMXBean();
        long before = beans.getCurrentThreadAllocatedBytes();
        CornerCurves x = new CornerCurves();
        long made = beans.getCurrentThreadAllocatedBytes() - before;
        due.is("a new object takes " + made + " bytes", made < MOST_BYTES ? 1 : 0, 1);
        before = beans.getCurrentThreadAllocatedBytes();
        calls(x);
        long grown = beans.getCurrentThreadAllocatedBytes() - before;
        due.is("512 calls take " + grown + " bytes", grown < 100_000 ? 1 : 0, 1);
        System.out.println("an object takes " + made + " bytes, 512 calls " + grown);
        due.close();
    }

    private static void run() {
        calls(new CornerCurves());
    }

    /** 512 calls, or a few less, on FORMS of 35 TERMS with many EDGES. */
    private static void calls(CornerCurves x) {
        int left = 512;
        int f = x.form();
        for (int i = 0; i < 4; i++) {
            for (int j = 0; j < 3; j++) {
                x.term(f, i, j, Math.min(20, i * i + i * j + j * j));
            }
        }
        int g = x.power(f, 2);
        int h = x.move(g, 3, -2);
        due.is("TERMS", x.told(g, 1), 35);
        left -= 16;
        while (left >= 9) {
            x.sum(f, f);
            x.write(x.count(0) - 1);
            x.check(g);
            x.meets(g, h);
            x.meet(g, h, 0, 0);
            x.drop();
            x.same(g, h);
            x.amount(f, f);
            left -= 9;
        }
    }
}
