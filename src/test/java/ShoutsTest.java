/** Promises 15 to 18: shout, horns, weakest, watch. */
public final class ShoutsTest {
    private static final Due due = new Due();
    private static final int LOW = Integer.MIN_VALUE, HIGH = Integer.MAX_VALUE;

    public static void main(String[] args) {
        shout();
        horns();
        weakest();
        watch();
        wrongNumbers();
        due.end();
    }

    private static void shout() {
        SevenRounds x = new SevenRounds();
        x.set(2, 99);
        due.is("rounds are not counted by 99", x.shout(12), 10);
        x.part(0, 4, 0);
        x.part(11, 6, 0);
        x.part(5, 3, 0);
        due.is("shout(1)", x.shout(1), 3);
        due.is("shout(2) over the ring's seam", x.shout(2), 6);
        due.is("shout(3)", x.shout(3), 10);
        x.set(0, 5);
        due.is("held already: shout(1)", x.shout(1), 0);
        due.is("held already: shout(2)", x.shout(2), 1);
        x.thread(11, true);
        due.is("a thread in the way", x.shout(2), 5);
        due.is("a thread forbids all", x.shout(12), -6);
        x.part(11, 0, 0);
        due.is("a thread on what is down", x.shout(2), 0);
        x.set(0, 0);
        due.is("a thread on what is down", x.shout(2), 4);
        due.is("down now, nothing held", x.shout(1), 0);
        for (int i = 0; i < 12; i++) {
            x.part(i, 99, 0);
            x.thread(i, i % 2 == 1);
        }
        due.is("99", x.shout(1), 99);
        due.is("none", x.shout(2), -6);
        x.set(0, 99);
        due.is("all is held", x.shout(1), 0);
        Due.write(x, "x");
        due.is("wherever the pad", x.shout(1), 0);
    }

    private static void horns() {
        SevenRounds x = new SevenRounds();
        x.set(2, 99);
        x.part(0, 0, 3);
        x.thread(0, true);
        due.is("none blown", x.horns(0, 0), 1);
        due.is("none blown", x.horns(0, 1), 0);
        x.part(1, 2, 3);
        x.part(2, 1, 5);
        due.is("one", x.horns(1, 0), 2);
        due.is("one: 3 fells 1; 4, 5, 6 fell 2", x.horns(1, 1), 3);
        due.is("two", x.horns(2, 0), 3);
        due.is("two, the least", x.horns(2, 1), 24);
        due.is("three, the least", x.horns(3, 1), 24);
        x.thread(1, true);
        due.is("with a thread", x.horns(3, 0), 2);
        due.is("with a thread, the least", x.horns(3, 1), 4);
        x.part(2, 6, 9);
        due.is("three of one tone", x.horns(3, 0), 2);
        due.is("three of one tone", x.horns(3, 1), 999);
        x.part(2, 5, 9);
        due.is("three", x.horns(3, 1), 899);
        due.is("nothing is done", x.told(12), 5);
    }

    private static void weakest() {
        SevenRounds x = new SevenRounds();
        for (int g = 1; g <= 12; g++) {
            due.is("all alike: first", x.weakest(g, 0), 0);
            due.is("all alike: firm", x.weakest(g, 1), 10 * g);
        }
        x.part(11, 2, 0);
        x.part(1, 3, 0);
        due.is("weakest(1)", x.weakest(1, 0), 11);
        due.is("weakest(2)", x.weakest(2, 0), 10);
        due.is("weakest(2)", x.weakest(2, 1), 12);
        due.is("weakest(3)", x.weakest(3, 0), 11);
        due.is("weakest(3)", x.weakest(3, 1), 15);
        due.is("weakest(4)", x.weakest(4, 0), 10);
        due.is("weakest(12)", x.weakest(12, 0), 0);
        due.is("weakest(12)", x.weakest(12, 1), 105);
    }

    private static void watch() {
        SevenRounds x = new SevenRounds();
        due.is("none", x.watch(0, 0, 0), 0);
        due.is("each itself", x.watch(2049, 0, 1), 2049);
        due.is("over the seam", x.watch(2049 + 2, 1, 1), 1);
        due.is("over the seam", x.watch(2049 + 2, 1, 0), 1);
        due.is("of as few the least", x.watch(1 << 6, 3, 1), 8);
        due.is("of as few the least", x.watch(1 << 1, 3, 1), 1);
        due.is("of as few the least, over the seam", x.watch(1 << 10, 3, 1), 1);
        due.is("of as few the least, no seam", x.watch(1 << 8, 3, 1), 32);
        due.is("all, 3", x.watch(4095, 3, 0), 2);
        due.is("all, 2", x.watch(4095, 2, 0), 3);
        due.is("all, 1", x.watch(4095, 1, 1), 585);
        due.is("all, 0", x.watch(4095, 0, 1), 4095);
    }

    private static void wrongNumbers() {
        SevenRounds x = new SevenRounds();
        for (int bad : new int[] {0, 13, -1, LOW, HIGH}) {
            due.is("shout outside", x.shout(bad), -2);
            due.is("weakest outside", x.weakest(bad, 0), -2);
        }
        for (int bad : new int[] {4, -1, LOW, HIGH}) {
            due.is("horns outside", x.horns(bad, 0), -2);
            due.is("watch outside", x.watch(1, bad, 0), -2);
        }
        for (int bad : new int[] {4096, -1, LOW, HIGH}) {
            due.is("watch set outside", x.watch(bad, 1, 0), -2);
        }
        for (int bad : new int[] {2, -1, LOW, HIGH}) {
            due.is("horns what", x.horns(1, bad), -2);
            due.is("weakest what", x.weakest(1, bad), -2);
            due.is("watch what", x.watch(1, 1, bad), -2);
        }
    }
}
