import com.sun.management.ThreadMXBean;
import java.lang.management.ManagementFactory;

/** All calls of a run live in one room, so a run of the dearest calls may make next to nothing. */
public final class RoomTest {
    private static final ThreadMXBean THREADS = (ThreadMXBean) ManagementFactory.getThreadMXBean();
    private static final Checks CHECKS = new Checks();
    private static final int CALLS = 512;

    public static void main(String[] args) {
        FigureCaller x = Checks.with("a=centres tl,front tr,ends tl;4(3(rear tl))", "b=2(all tr);2(all tl)",
            "c=4(4(front tl,rear tr))", "d=4(4(centres tr))", "e=2(b;b)", "out=all back;all tl");
        for (int i = 0; i < 5; i++) {
            x.allow(i, true);
        }
        x.dance(5);
        long before = made();
        before = made();
        for (int i = 0; i < CALLS; i++) {
            x.resolve();
        }
        fits("resolve()", made() - before, 10_000);

        before = made();
        for (int i = 0; i < CALLS; i++) {
            x.same(0, 2);
        }
        fits("same()", made() - before, 10_000);

        before = made();
        for (int i = 0; i < CALLS / 2; i++) {
            x.dance(i % 5);
            x.undo();
        }
        fits("dance() and undo()", made() - before, 10_000);

        Checks.write(x, "z=4(4(4(a;b;c;d;e;centres tl,all tr;all tl,all tr,all fwd,all back,all stay,rear tl;a;b;c;d)))");
        before = made();
        for (int i = 0; i < CALLS; i++) {
            Checks.answer(() -> x.define());
        }
        // An exception, with the Java library's own account of where it was thrown, takes some hundred bytes.
        fits("define() that throws", made() - before, CALLS * 4_000);

        before = made();
        new FigureCaller();
        fits("new FigureCaller()", made() - before, 60_000);
        CHECKS.end();
    }

    private static long made() {
        return THREADS.getThreadAllocatedBytes(Thread.currentThread().getId());
    }

    private static void fits(String what, long bytes, long most) {
        System.out.println(what + ": " + bytes + " bytes made");
        CHECKS.equal(what + " makes at most " + most + " bytes", String.valueOf(bytes <= most), "true");
    }
}
