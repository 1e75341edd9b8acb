import java.lang.management.ManagementFactory;

/** All calls of a run live in one room: a call makes nothing; and no argument makes the machine throw. */
public final class RoomTest {
    private static final int[] ARGUMENTS = {Integer.MIN_VALUE, -1000000, -100, -1, 0, 1, 2, 3, 4, 6, 7, 8, 9, 17, 30, 60,
        100, 1600, 100000, Integer.MAX_VALUE};
    private static long sum = 0;

    public static void main(String[] args) {
        DogDecrees x = new DogDecrees();
        Check.tell(x, largest());
        Check.due("the largest VILLAGE", x.about(0), 8);
        for (int i = 0; i < 3; i++) {
            callAll(x);
        }
        com.sun.management.ThreadMXBean threads =
                (com.sun.management.ThreadMXBean) ManagementFactory.getThreadMXBean();
        long thread = Thread.currentThread().getId();
        threads.getThreadAllocatedBytes(thread);
        long before = threads.getThreadAllocatedBytes(thread);
        callAll(x);
        long made = threads.getThreadAllocatedBytes(thread) - before;
        Check.due("bytes made by calls: " + made, made < 4096, true);
        anyArguments(new DogDecrees());
        anyArguments(Check.village(largest()));
        anyArguments(Check.village("deed a;case c bar 1;when a c 1;"));
        anyArguments(Check.village("deed a;place p smell 1 does a;"));
        Check.due("the answers are used, so that no call is left out", sum != 0, true);
        Check.end("RoomTest");
    }

    private static String largest() {
        StringBuilder s = new StringBuilder("deed a;deed b;deed c;deed d;");
        for (int p = 0; p < 8; p++) {
            s.append("place ").append((char) ('a' + p)).append(" smell ").append(p).append(" does ")
                    .append((char) ('a' + p % 4)).append(';');
        }
        for (int i = 0; i < 16; i++) {
            int from = i % 8;
            int to = (from + 1 + i / 8) % 8;
            s.append("path ").append((char) ('a' + from)).append(" to ").append((char) ('a' + to)).append(';');
        }
        s.append("case a bar 15;case b bar 9;");
        for (int d = 0; d < 4; d++) {
            s.append("when ").append((char) ('a' + d)).append(" a ").append(d).append(';');
            s.append("when ").append((char) ('a' + d)).append(" b ").append(d - 2).append(';');
        }
        return s.append("pull smell+bones*2+(hour+age+here)%5+(1 or not 0 and 3<4);hears 6;day 12;").toString();
    }

    /** Each call, the dearest arguments among them. */
    private static void callAll(DogDecrees x) {
        x.feed(0x64656564, 0x20613b70, 0, 0, 0);
        sum += x.end(7) + x.fault(0) + x.place(0, 4) + x.hearing(0, 3) + x.table(0, 0) + x.draws(0);
        for (int i = 0; i < 30; i++) {
            sum += x.hour() + x.lay(i % 8) + x.take(i % 8) + x.count(0, i % 4, i % 10, 0, 0, 0) + x.later(1);
        }
        sum += x.undo() ? 1 : 0;
        sum += x.redo() ? 1 : 0;
        sum += x.image(0) + x.back(0);
        sum += x.where(7, 8, 0) + x.pass(0, 8, 0) + x.likely(8) + x.soon(0) + x.best(0, 6, 4, 0) + x.least(0, 6);
        sum += x.byTurns(0, 6, 0) + x.council(0, 8) + x.haunt() + x.walk(0) + x.fed(8) + x.lies(0);
        sum += x.untell(0) ? 1 : 0;
        sum += x.meant(0, 9) + x.sure(0, 0, 9) + x.ask(0, 0, 9) + x.about(9);
    }

    private static void anyArguments(DogDecrees x) {
        for (int a : ARGUMENTS) {
            sum += x.end(a) + x.fault(a) + x.draws(a) + x.lay(a) + x.take(a) + x.likely(a) + x.soon(a) + x.walk(a);
            sum += x.fed(a) + x.lies(a) + x.later(a) + x.image(a) + x.back(a) + x.about(a) + x.hour() + x.haunt();
            sum += x.untell(a) ? 1 : 0;
            for (int b : ARGUMENTS) {
                sum += x.place(a, b) + x.hearing(a, b) + x.table(a, b) + x.least(a, b) + x.council(a, b) + x.meant(a, b);
                sum += x.count(a, b, 1, 1, 1, 1) + x.count(1, 1, a, 1, b, 0) + x.count(0, 0, 1, a, 1, b) + x.best(a, b, 1, 0);
                for (int c : ARGUMENTS) {
                    sum += x.where(a, b, c) + x.pass(a, b, c) + x.byTurns(a, b, c) + x.sure(a, b, c) + x.ask(a, b, c);
                }
            }
            sum += x.best(0, 1, a, 0) + x.best(0, 1, 1, a) + x.feed(a, a, a, a, a);
            sum += x.undo() ? 1 : 0;
            sum += x.redo() ? 1 : 0;
        }
        sum += x.village();
    }
}
