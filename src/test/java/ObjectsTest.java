import java.lang.management.ManagementFactory;

/** What an object is beside others, and for how long: promise 1, 512 calls, and the room that calls take. */
public final class ObjectsTest {
    private static final Due DUE = new Due();
    private static final int MOST_CALLS = 512;
    private static final String TIED = "good 1;good 3;land 10 1 2;land 5 4 1;";

    public static void main(String[] args) {
        eachObjectIsItsOwn();
        upToTheLastCall();
        callsMakeNothing();
        DUE.end("ObjectsTest");
    }

    /** "No WORLD": nor anything else of an object that was used before, or is used by turns with it. */
    private static void eachObjectIsItsOwn() {
        LandGoods used = Due.worldOf(TIED);
        Due.fill(used, 0, 1, 2);
        used.learn(0, 1, 1);
        used.ask(0, 0);
        Due.feedText(used, "x");
        used.world();
        Due.feedText(used, "good");
        used.drop(5);
        LandGoods x = new LandGoods();
        for (int what = 0; what <= 5; what++) {
            DUE.is("1: count(" + what + ") of a new one", x.count(what), 0);
        }
        DUE.is("1: fault() of a new one", x.fault(), 0);
        DUE.is("1: status() of a new one", x.status(), 0);
        DUE.is("1: trace(0) of a new one", x.trace(0), LandGoods.NONE);
        DUE.is("1: wage(0, 0) of a new one", x.wage(0, 0), Due.BAD);
        DUE.is("1: judge(0, 0) of a new one", x.judge(0, 0), Due.STATE);
        DUE.is("1: drop(0) of a new one", x.drop(0), Due.NULL);
        Due.feedText(x, "good 5;land 7 3;");
        DUE.is("1: its own world", x.world(), 1);
        DUE.is("1: nothing learned in it", x.on(0), Due.STATE);
        x.row(1, 0, 3);
        DUE.is("1: lands of the other", used.count(1), 2);
        DUE.is("1: rows of the other", used.count(0), 1);
        DUE.is("1: bytes of the other", used.count(5), 4);
        DUE.is("1: fault of the other", used.fault(), 1);
        DUE.is("1: status of the other", used.status(), 1);
        DUE.is("1: learned by the other", used.on(1), -1);
    }

    /** "An object is used for at most 512 calls": the last of them is answered as the first. */
    private static void upToTheLastCall() {
        LandGoods x = new LandGoods();
        int calls = 0;
        // A world takes 6 calls here: 5 of feed() and that of world().
        while (calls + 6 + 10 <= MOST_CALLS) {
            Due.feedText(x, TIED);
            DUE.is("a world by call " + calls, x.world(), 2);
            DUE.is("5 go by call " + calls, x.move(5), 5);
            DUE.is("on() by call " + calls, x.on(1), -1);
            DUE.is("learn() by call " + calls, x.learn(0, 1, 1), 1);
            DUE.is("row() by call " + calls, x.row(calls % 8, 2, 40), 40);
            DUE.is("set() by call " + calls, x.set(calls % 8, 39, calls), calls);
            DUE.is("copy() by call " + calls, x.copy(calls % 8, 39, calls % 8, 0, 1), 1);
            DUE.is("ask() by call " + calls, x.ask(1, 1), 6);
            DUE.is("trace() by call " + calls, x.trace(4), 10);
            DUE.is("edge() by call " + calls, x.edge(0, 1) == Due.BAD ? 1 : 0, 0);
            DUE.is("status() by call " + calls, x.status(), 0);
            calls += 6 + 10;
        }
        while (calls < MOST_CALLS) {
            DUE.is("count() by call " + calls, x.count(3), 15);
            calls++;
        }
    }

    /** All calls of one run live in one room, so a call makes no object: measured, where the machine can measure it. */
    private static void callsMakeNothing() {
        if (!(ManagementFactory.getThreadMXBean() instanceof com.sun.management.ThreadMXBean bean)
                || !bean.isThreadAllocatedMemorySupported() || !bean.isThreadAllocatedMemoryEnabled()) {
            System.out.println("ObjectsTest: this machine does not tell what is made");
            return;
        }
        LandGoods x = new LandGoods();
        everyCall(x);
        DUE.is("the text is one of three lands", x.count(1), 3);
        long self = Thread.currentThread().getId();
        long ahead = bean.getThreadAllocatedBytes(self);
        for (int times = 0; times < 1000; times++) {
            everyCall(x);
        }
        long made = bean.getThreadAllocatedBytes(self) - ahead;
        // One object in a single sort of call would be 16 bytes and more, 1000 times.
        DUE.is("bytes made by 1000 times all calls, " + made + ", are next to none", made < 8000 ? 1 : 0, 1);
    }

    /** The bytes are numbers here, as a text that is taken apart would make objects of the test's own. */
    private static void everyCall(LandGoods x) {
        x.feed(0x676F6F6420313B67L, 8);
        x.feed(0x6F6F6420333B6C61L, 8);
        x.feed(0x6E64203130203120L, 8);
        x.feed(0x323B6C616E642035L, 8);
        x.feed(0x203420313B6C616EL, 8);
        x.feed(0x64203520332032L, 7);
        x.feed(0x3B, 1);
        x.world();
        x.fault();
        x.told(0, 0, 0);
        x.wage(1, 0);
        x.price(1, 0);
        x.gain(1, 1, 0);
        x.row(0, 2, 6);
        for (int i = 0; i < 6; i++) {
            x.set(0, i, 7);
        }
        x.copy(0, 0, 0, 1, 3);
        x.judge(0, 0);
        x.chain(0, 1, -1);
        x.chain(0, 1, 0);
        x.more(0, 0);
        x.stays(1, 0, 10);
        x.learn(0, 1, 1);
        x.on(1);
        x.edge(0, 0);
        x.move(5);
        x.kind(0);
        x.as(0, 3);
        x.ask(0, 0);
        x.ask(1, 1);
        x.trace(0);
        x.count(4);
        x.status();
        x.drop(0);
        x.drop(0);
        x.world();
    }
}
