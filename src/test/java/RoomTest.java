import java.lang.management.ManagementFactory;

/** All calls of a run live in one room, so a call may make next to nothing. */
public final class RoomTest {
    private static final int TIMES = 200;
    private static final com.sun.management.ThreadMXBean THREADS =
        (com.sun.management.ThreadMXBean) ManagementFactory.getThreadMXBean();

    public static void main(String[] args) {
        NineWays x = full();
        Checks.due("an object", room(RoomTest::full) < 20000, true);
        small("dearWay", () -> x.dearWay(0));
        small("bestRemove", () -> x.bestRemove(0));
        small("bestSkip", () -> x.bestSkip(0));
        small("wordsTogether", () -> x.wordsTogether(0, 1));
        small("wordsIf", () -> x.wordsIf(0, 1, 2));
        small("priceBy", () -> x.priceBy(0, 2));
        small("why", () -> x.why(0, 0, 0));
        small("gap", x::gap);
        small("sum", () -> x.sum(0, 1, 50));
        small("many", () -> x.many(0, 1));
        small("report", () -> x.report(0));
        small("put", () -> x.put(0, 1, 2));
        small("setRule", () -> x.setRule(2));
        small("undo", x::undo);
        small("save", x::save);
        small("restore", x::restore);
        small("feed", () -> x.truncate(x.feed(0, 0, 0, 0, 0) - 20));
        small("readText", () -> readSmall(x));
        small("runScript", () -> runSmall(x));
        Checks.end("RoomTest");
    }

    private static NineWays full() {
        return Checks.of("pack 2 1;price 8 0;row a;fill a 60 9000;row b;fill b 60 1;row c;fill c 60 300;row d;fill d 60 268435455;");
    }

    // "pack 0 1;" and blanks
    private static int readSmall(NineWays x) {
        x.feed(0x7061636b, 0x20302031, 0x3b202020, 0x20202020, 0x20202020);
        return x.readText();
    }

    // "repeat 9(skip 1;);" and blanks
    private static int runSmall(NineWays x) {
        x.feed(0x72657065, 0x61742039, 0x28736b69, 0x7020313b, 0x293b2020);
        return x.runScript();
    }

    private static long room(Checks.Call call) {
        long before = THREADS.getThreadAllocatedBytes(Thread.currentThread().getId());
        for (int k = 0; k < TIMES; k++) {
            call.answer();
        }
        return (THREADS.getThreadAllocatedBytes(Thread.currentThread().getId()) - before) / TIMES;
    }

    private static long room(java.util.function.Supplier<NineWays> maker) {
        return room(() -> maker.get().setting(0));
    }

    private static void small(String what, Checks.Call call) {
        room(call);
        long bytes = room(call);
        Checks.due(what + " takes " + bytes + " bytes, which are few", bytes <= 64, true);
    }
}
