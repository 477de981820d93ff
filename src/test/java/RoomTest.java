import java.lang.management.ManagementFactory;

/** What a run makes: rows are made with the object, and no call makes any more. */
public final class RoomTest {
    private static final String TEXT = "method;call 0 0 1;say 1 0 1;say 2;class 9;class 0;has 0 0 0;test 0 5 1;test 1 9 2;";
    private static final int MOST_BYTES_EACH = 40000;
    // What the measuring itself may take; a row made anew at each call would be far more.
    private static final int SLACK = 512;

    public static void main(String[] args) {
        com.sun.management.ThreadMXBean threads =
            (com.sun.management.ThreadMXBean) ManagementFactory.getThreadMXBean();
        long self = Thread.currentThread().getId();
        everyCall(new TestChoice());
        long before = threads.getThreadAllocatedBytes(self);
        long measuring = threads.getThreadAllocatedBytes(self) - before;
        TestChoice x = new TestChoice();
        long made = threads.getThreadAllocatedBytes(self);
        everyCall(x);
        long behind = threads.getThreadAllocatedBytes(self);
        long object = made - before - 2 * measuring;
        Due.holds("an object takes " + object + " bytes", object <= MOST_BYTES_EACH);
        Due.holds("the calls take " + (behind - made - measuring) + " bytes", behind - made - measuring <= SLACK);
        Due.close("RoomTest");
    }

    private static void everyCall(TestChoice x) {
        for (int i = 0; i < TEXT.length(); i++) {
            x.feed(TEXT.charAt(i));
        }
        x.text();
        x.fault();
        x.keep(0);
        x.nexts(0, 2, 2);
        x.say(0, 1, 0, 3);
        x.lead(0, 1, 0, 2);
        x.has(1, 0, -4);
        for (int what = 0; what < 9; what++) {
            x.rule(what);
            x.test(0, what);
            x.count(what);
            x.node(0, 0, what);
        }
        x.meant(0, 0, 1);
        x.said(0, 1);
        x.edge(100, 1);
        x.covers(0, 100);
        x.order(0, 1);
        x.same(1);
        x.take();
        x.leave();
        x.add(0, 3, 4);
        x.drop(0);
        x.draw(5, 8);
        x.back(0);
        for (int lane = 0; lane < 3; lane++) {
            x.sheet(lane, lane, 40);
            x.lay(lane, 3, 9);
            x.read(lane, lane, 0, 10);
        }
        x.torn();
        x.feed('A');
        x.end(1);
        x.text();
    }
}
