import java.lang.management.ManagementFactory;

/** All calls of one run live in one room: what an object makes, it makes when it is made, but for the texts. */
public final class RoomTest {
    private static final int CALLS = 512;
    // what the machine itself may put aside while it counts
    private static final long SLACK = 4096;

    public static void main(String[] args) {
        com.sun.management.ThreadMXBean room = (com.sun.management.ThreadMXBean) ManagementFactory.getThreadMXBean();
        // the first one's room is the classes' too
        long sum = new BeachIsRelaid().count(0);
        long ahead = room.getCurrentThreadAllocatedBytes();
        BeachIsRelaid x = new BeachIsRelaid();
        long made = room.getCurrentThreadAllocatedBytes() - ahead;
        for (int i = 0; i < 4; i++) {
            x.staff(i, i, i * 7);
        }
        for (int c = 0; c < 7; c++) {
            x.set(2, c * 5, 9);
        }
        ahead = room.getCurrentThreadAllocatedBytes();
        for (int i = 0; i < CALLS; i++) {
            sum += x.soonest(i % 4, 0) + x.together(0) + x.shore(i % 6) + x.run(i % 4, 999, i % 4) + x.drawn(i);
            sum += x.film(0, i % 4, 36) + x.tells(0, i % 4, i % 7) + x.chance(i, 20, 9, 0) + x.wrong(50 + i % 4);
            sum += x.sheet(1, i % 3, 40) + x.cell(1, i % 40, i) + x.copy(1, 0, 1, 9, 9) + x.crew(1, i % 3, 0, 4);
            sum += x.tour(2, 0) + x.image() + x.back() + x.share(0, 0) + x.nearest(9, 0) + x.taken(0, 0) + x.feed(40);
            sum += x.tide(0) + x.asks(0, 9, 3) + x.told(9, 1) + x.count(1) + x.force(0) + x.wrong(0);
        }
        long calls = room.getCurrentThreadAllocatedBytes() - ahead;
        System.out.println("an object: " + made + " bytes, " + CALLS + " times 26 calls: " + calls + " bytes (" + sum + ")");
        if (made > 20000 || calls > SLACK) {
            System.out.println("more room than is due");
            System.exit(1);
        }
    }
}
