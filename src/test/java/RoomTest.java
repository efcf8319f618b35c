import java.lang.management.ManagementFactory;

/** All calls of a run live in one room: an object is small, and calls make nothing but the image, once. */
public final class RoomTest {
    public static void main(String[] args) {
        Check check = new Check("RoomTest");
        com.sun.management.ThreadMXBean bean = (com.sun.management.ThreadMXBean) ManagementFactory.getThreadMXBean();
        long id = Thread.currentThread().getId();
        busy(new VeiledLandaus(), 2);
        long start = bean.getThreadAllocatedBytes(id);
        VeiledLandaus x = new VeiledLandaus();
        long made = bean.getThreadAllocatedBytes(id);
        x.image(true);
        long image = bean.getThreadAllocatedBytes(id);
        busy(x, 12);
        long end = bean.getThreadAllocatedBytes(id);
        check.due("a new object has at most 40,000 bytes, has " + (made - start), made - start <= 40000, true);
        check.due("its image at most 20,000, has " + (image - made), image - made <= 20000, true);
        check.due("some 500 calls make next to nothing, made " + (end - image), end - image <= 4000, true);
        check.close();
    }

    /** Each call of the face, in rounds. */
    private static void busy(VeiledLandaus x, int rounds) {
        for (int i = 0; i < rounds; i++) {
            x.woman(i % 10, 5, 3);
            x.groom(3, i / 2);
            x.state(i);
            x.set(1, 0, i % 10);
            x.feed(0x61736b20, 0x373b2020, 0x20202020, 0x20202020, 0x20202020);
            x.end(6);
            x.text(1);
            x.fault(0);
            x.wed(i % 8, i - 1, i, i - 2);
            x.cough(i, true);
            x.years(10);
            x.part(i % 8);
            x.of(0, 4);
            x.who(0, 10);
            x.yes(0, 0, 0, 0);
            x.counts(0, 0, 0, 0, true);
            x.book(0, 0);
            x.would(0, 0, 1, 2, 0);
            x.goes(20, 0);
            x.tells(0, 0, 1, 2, 0);
            x.sent(0, 0);
            x.man(i % 6, 0, true);
            x.liars(0);
            x.guess(123, 1, 0);
            x.plumes(2);
            x.bet(i % 3, 300);
            x.safe(300, 0);
            x.street(i % 10, (i + 1) % 10);
            x.ways(0, 3, 0);
            x.kin(0, 1);
            x.groups(1);
            x.step(i);
            x.alike(3, 0);
            x.carriage(0, 3, 3);
            x.down(0);
            x.offer(i);
            x.stop(0);
            x.game(0);
            x.undo();
            x.image(i % 2 == 0);
            x.look(7);
        }
    }
}
