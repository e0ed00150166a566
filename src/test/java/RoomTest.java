import java.lang.management.ManagementFactory;

/** A run has one room: beside its constructor and its exceptions the class makes no object. */
public final class RoomTest {
    private static final Check CHECK = new Check("RoomTest");
    private static final int SLACK = 20_000;
    private static int sink = 0;

    public static void main(String[] args) {
        com.sun.management.ThreadMXBean threads =
                (com.sun.management.ThreadMXBean) ManagementFactory.getThreadMXBean();
        if (!threads.isThreadAllocatedMemorySupported()) {
            CHECK.due("cannot be measured here", true, () -> true);
            CHECK.end();
            return;
        }
        JarCabinet x = full();
        everyCall(x);
        long before = threads.getCurrentThreadAllocatedBytes();
        for (int n = 0; n < 50; n++) {
            everyCall(x);
        }
        long calls = threads.getCurrentThreadAllocatedBytes() - before;
        CHECK.due("bytes of 50 times all calls: " + calls, true, () -> calls < SLACK);
        before = threads.getCurrentThreadAllocatedBytes();
        sink += new JarCabinet().count(0);
        long made = threads.getCurrentThreadAllocatedBytes() - before;
        CHECK.due("bytes of an object: " + made, true, () -> made < 40_000);
        CHECK.end();
    }

    private static JarCabinet full() {
        JarCabinet x = new JarCabinet();
        for (int k = 0; k < 10; k++) {
            Check.cabinet(x, "jar vinegar at " + k + " spoons 20 sour 1 seal " + k + " views 12345" + k
                    + ";need " + 4 * k + " 3 4");
        }
        Check.cabinet(x, "quota 20;peel 30;wasps 30;light 1 4;light 5 6");
        return x;
    }

    private static void everyCall(JarCabinet x) {
        x.seed(1);
        // "add 1 if sour>7;pop "
        x.feed(0x61646420, 0x31206966, 0x20736f75, 0x723e373b, 0x706f7020);
        x.end(15);
        x.law();
        x.image();
        for (int jar = 0; jar < 10; jar++) {
            for (int what = 0; what < 10; what++) {
                sink += x.jar(jar, what);
            }
            x.ask(jar, 0);
            x.label(jar, 9 - jar);
            x.move(jar, 11);
            sink += x.arranged(jar) + x.asked(jar) + x.ring(jar) + x.whose(jar) + x.goes(jar)
                    + x.ripe(jar, 2, true) + x.spoils(jar, 1, 2) + x.ahead(jar, 40, 7) + x.need(jar, 3)
                    + x.advice(jar, 1, true) + x.light(jar) + x.falls(jar);
            sink += x.close(jar) ? 1 : 0;
        }
        x.mix(1, 2, 3);
        x.years(20);
        sink += x.mixture(1, 2, 3) + x.best(1, 2) + x.coalition() + x.agree(9) + x.cover(4) + x.plan()
                + x.unmet() + x.tastes(true) + x.next() + x.harm() + x.arranged(-1) + x.falls(-1)
                + x.smallest(true) + x.smallest(false) + x.dummies() + x.war(1, 2, 3) + x.wrong(true)
                + x.asked(-1) + x.led(1) + x.trial(30, true) + x.span(30, false) + x.log(0, 1)
                + x.count(8) + x.fault() + (x.wins(7) ? 1 : 0);
        x.undo();
        x.back();
    }
}
