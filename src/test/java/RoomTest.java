import java.lang.management.ManagementFactory;

/** All calls of one run live in one room: behind its constructor an object makes two images, and no more. */
public final class RoomTest {
    private static final Due due = new Due();
    private static final int ROWS_OF_AN_OBJECT = 4096;

    public static void main(String[] args) {
        com.sun.management.ThreadMXBean room =
                (com.sun.management.ThreadMXBean) ManagementFactory.getThreadMXBean();
        long thread = Thread.currentThread().getId();
        use(new SevenRounds());
        room.getThreadAllocatedBytes(thread);
        long before = room.getThreadAllocatedBytes(thread);
        SevenRounds x = new SevenRounds();
        long made = room.getThreadAllocatedBytes(thread);
        use(x);
        long used = room.getThreadAllocatedBytes(thread);
        due.holds("an object is small: " + (made - before), made - before < ROWS_OF_AN_OBJECT);
        due.holds("its calls make next to nothing: " + (used - made), used - made < ROWS_OF_AN_OBJECT);
        due.end();
    }

    private static void use(SevenRounds x) {
        x.set(0, 5);
        x.set(1, 12);
        x.say('h');
        x.say('5');
        x.say('!');
        x.say('n');
        for (int i = 0; i < 25; i++) {
            x.judge(0);
            x.behind(3);
            x.then(0);
            x.fell(1);
            x.shout(12);
            x.horns(3, 1);
            x.weakest(5, 0);
            x.watch(4095, 2, 1);
            x.seen(5, 0);
            x.tones();
            x.next(0);
            x.chain(7);
            x.quiet(0, 0, 1);
            x.water(9, 3, 0, 1);
            x.lots(20, 20, 20, 1);
            x.day(77, 99, 0);
            x.image(i % 2);
            x.restore(i % 2);
            x.told(10);
            x.done();
        }
    }
}
