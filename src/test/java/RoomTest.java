import java.lang.management.ManagementFactory;

/**
 * All calls of a run live in one room of some 600,000 objects: rows are made in
 * the constructor and used again, so a call makes nothing.
 */
public final class RoomTest {
    private static final Check check = new Check();

    public static void main(String[] args) {
        WovenRows x = Check.behind("AdBdCdDdEdFdGuHuIuJu");
        callAll(x);
        // The least of several rounds: the machine itself may make something in one of them.
        long least = Long.MAX_VALUE;
        for (int round = 0; round < 12; round++) {
            long before = made();
            callAll(x);
            least = Math.min(least, made() - before);
        }
        long nothing = Long.MAX_VALUE;
        for (int round = 0; round < 12; round++) {
            long before = made();
            nothing = Math.min(nothing, made() - before);
        }
        check.due("bytes that a round of all calls makes", least - nothing, 0);
        long before = made();
        WovenRows[] many = new WovenRows[1000];
        for (int i = 0; i < many.length; i++) {
            many[i] = new WovenRows();
        }
        check.holds("a new object is small", (made() - before) / many.length < 16000);
        check.due("and all are new", many[999].told(1), 0);
        check.end();
    }

    private static long made() {
        com.sun.management.ThreadMXBean threads =
            (com.sun.management.ThreadMXBean) ManagementFactory.getThreadMXBean();
        return threads.getThreadAllocatedBytes(Thread.currentThread().getId());
    }

    private static long callAll(WovenRows x) {
        long sum = x.member(0, 9, 3) + x.wide(3, 12) + x.delay(0, 2) + x.wipe() + x.say('!') + x.fault();
        sum += x.judge(0) + x.place(0, 0) + x.of(0, 0) + x.bells() + x.done();
        sum += x.meets(3) + x.runs() + x.order(0, 1) + x.order(1, 0) + x.start(1) + x.door(3, 1) + x.grate(1);
        sum += x.rule(0, 1) + x.orders(0, 1) + x.unrule() + x.seen(4, 9) + x.who(1) + x.look(1) + x.forget();
        sum += x.look(1) + x.chance(3, 3, 0) + x.year(77, 99, 1) + x.image(1) + x.restore(1) + x.told(80);
        return sum;
    }
}
