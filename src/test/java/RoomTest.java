import java.lang.management.ManagementFactory;
import java.util.Random;

/** What a run of calls makes stays small, and no call throws by itself, even far beyond 512 calls. */
public final class RoomTest {
    private static final com.sun.management.ThreadMXBean THREADS =
        (com.sun.management.ThreadMXBean) ManagementFactory.getThreadMXBean();

    public static void main(String[] args) {
        dearRun();
        manyObjects();
        beyondTheCalls();
        Check.end();
    }

    private static long made() {
        return THREADS.getCurrentThreadAllocatedBytes();
    }

    /** Paragraphs that grow item by item to 400 breaks, with lines() behind each, and a looseness. */
    private static void dearRun() {
        long before = made();
        LineDesk desk = new LineDesk();
        desk.rule(8, 1);
        for (int i = 0; i < 399; i++) {
            desk.penalty(-10000);
            if (i % 4 == 0 || i > 360) {
                desk.lines();
            }
        }
        long bytes = made() - before;
        Check.due("bytes made: " + bytes, bytes < 4L * 2000000, true);
    }

    private static void manyObjects() {
        long before = made();
        for (int i = 0; i < 500; i++) {
            LineDesk desk = new LineDesk();
            desk.box(i);
            desk.lines();
        }
        long bytes = made() - before;
        Check.due("bytes made: " + bytes, bytes < 4L * 2000000, true);
    }

    private static void beyondTheCalls() {
        LineDesk desk = new LineDesk();
        for (int i = 0; i < 4096; i++) {
            desk.box(1);
        }
        Check.due("box", desk.box(1), LineDesk.NONE);
        Check.due("glue", desk.glue(1, 1, 1, 1), LineDesk.NONE);
        Check.due("kern", desk.kern(1), LineDesk.NONE);
        Check.due("penalty", desk.penalty(1), LineDesk.NONE);
        Check.due("cut", desk.cut(1, 1, 1, 1), LineDesk.NONE);
        Check.due("items", desk.about(5), 4096);
        Check.lines(desk, 1);
        Random random = new Random(7);
        for (int i = 0; i < 20000; i++) {
            anyCall(desk, random);
        }
    }

    private static int any(Random random) {
        return switch (random.nextInt(4)) {
            case 0 -> random.nextInt();
            case 1 -> random.nextInt(20) - 5;
            case 2 -> random.nextInt(20001) - 10000;
            default -> random.nextInt(3);
        };
    }

    private static void anyCall(LineDesk desk, Random random) {
        int a = any(random);
        int b = any(random);
        int c = any(random);
        int d = any(random);
        switch (random.nextInt(14)) {
            case 0 -> desk.rule(a, b);
            case 1 -> desk.measure(a, b);
            case 2 -> desk.skip(a, b, c, d, any(random));
            case 3, 4 -> desk.box(a);
            case 5, 6 -> desk.glue(a, b, c, d);
            case 7 -> desk.kern(a);
            case 8 -> desk.penalty(a);
            case 9 -> desk.cut(a, b, c, d);
            case 10 -> {
                if (random.nextInt(20) == 0) {
                    desk.clear();
                }
            }
            case 11 -> Check.due("no other exception", Check.answer(desk::lines) != Long.MIN_VALUE, true);
            case 12 -> Check.due("no other exception", Check.answer(() -> desk.line(a, b)) != Long.MIN_VALUE, true);
            default -> desk.about(a);
        }
    }
}
