/** Promises 25 to 30: water, lots, day, image, restore, told. */
public final class InsideTest {
    private static final Due due = new Due();
    private static final int LOW = Integer.MIN_VALUE, HIGH = Integer.MAX_VALUE;
    private static final long REFUSED = -1000000000000000002L;

    public static void main(String[] args) {
        water();
        lots();
        day();
        images();
        told();
        due.end();
    }

    private static void water(int w, int t, long upper, long lower, int opens) {
        SevenRounds x = new SevenRounds();
        String call = "water(" + w + ", " + t + ")";
        due.is(call + " upper", x.water(w, t, 0, 0), upper);
        due.is(call + " lower", x.water(w, t, 0, 1), lower);
        due.is(call + " opens", x.water(w, t, 1, 0), opens);
        due.is(call + " opens, part 1", x.water(w, t, 1, 1), opens);
    }

    private static void water() {
        for (int t = 0; t <= 10; t++) {
            water(0, t, 0, 1, 1);
        }
        for (int w = 1; w <= 9; w++) {
            water(w, 0, 10 * w, 1, 1);
            water(w, 10, 100, 1, 0);
        }
        water(1, 1, 10, 1, 1);
        water(1, 2, 20, 1, 0);
        water(2, 1, 20, 1, 1);
        water(2, 3, 51, 1, 0);
        water(2, 9, 99, 1, 0);
        water(3, 3, 657, 10, 0);
        water(9, 2, 90, 1, 1);
        water(9, 3, 959646393L, 10000000L, 0);
        SevenRounds x = new SevenRounds();
        for (int bad : new int[] {10, -1, LOW, HIGH}) {
            due.is("water w", x.water(bad, 0, 0, 0), REFUSED);
        }
        for (int bad : new int[] {11, -1, LOW, HIGH}) {
            due.is("water t", x.water(0, bad, 0, 0), REFUSED);
        }
        for (int bad : new int[] {2, -1, LOW, HIGH}) {
            due.is("water what", x.water(0, 0, bad, 0), REFUSED);
            due.is("water part", x.water(0, 0, 0, bad), REFUSED);
            due.is("water part of what 1", x.water(0, 0, 1, bad), REFUSED);
        }
    }

    private static void lots() {
        SevenRounds x = new SevenRounds();
        int[] want = {0, 1, 2, 2, 3, 3, 3, 3, 4, 4, 4, 4, 4, 4, 4, 4, 5, 5, 5, 5};
        for (int n = 1; n <= 20; n++) {
            due.is("lots of " + n + " tribes", x.lots(n, 1, 1, 0), want[n - 1]);
            due.is("lots of " + n + " houses", x.lots(1, n, 1, 0), want[n - 1]);
            due.is("lots of " + n + " men", x.lots(1, 1, n, 1), want[n - 1]);
        }
        due.is("lots(5, 5, 5, 0)", x.lots(5, 5, 5, 0), 7);
        due.is("lots(5, 5, 5, 1)", x.lots(5, 5, 5, 1), 9);
        due.is("lots(16, 16, 16, 0)", x.lots(16, 16, 16, 0), 12);
        due.is("lots(16, 16, 16, 1)", x.lots(16, 16, 16, 1), 12);
        for (int bad : new int[] {0, 21, -1, LOW, HIGH}) {
            due.is("lots a", x.lots(bad, 1, 1, 0), -2);
            due.is("lots b", x.lots(1, bad, 1, 0), -2);
            due.is("lots c", x.lots(1, 1, bad, 0), -2);
        }
        for (int bad : new int[] {2, -1, LOW, HIGH}) {
            due.is("lots what", x.lots(1, 1, 1, bad), -2);
        }
    }

    private static void day() {
        SevenRounds x = new SevenRounds();
        // drawn by 3: . . . . ! n n . ; by 7: n n h6 . h7 ! ! !
        due.is("four in silence: held", x.day(3, 4, 1), 4);
        due.is("four in silence: round", x.day(3, 4, 2), 4);
        due.is("a shout: held", x.day(3, 5, 1), 0);
        due.is("a shout is no round", x.day(3, 5, 2), 4);
        due.is("a shout of four: none is down", x.day(3, 5, 0), 0);
        due.is("nights without masons are left out", x.day(3, 8, 2), 5);
        x.part(3, 0, 0);
        x.part(4, 4, 0);
        x.part(5, 4, 6);
        due.is("a shout of four: two are down more", x.day(3, 5, 0), 3);
        due.is("horns, silence, horns", x.day(7, 5, 0), 1);
        due.is("horns, silence, horns, a shout", x.day(7, 6, 0), 2);
        due.is("shouts of nothing are left out", x.day(7, 8, 2), 3);
        x.part(4, 10, 0);
        x.set(1, 1);
        due.is("nights first, with a mason", x.day(7, 8, 0), 1);
        x.set(0, 97);
        due.is("held 99 at most", x.day(3, 4, 1), 99);
        x.set(2, 98);
        due.is("to round 99", x.day(3, 4, 2), 99);
        due.is("then no more is held", x.day(3, 4, 1), 98);
        due.is("nothing is done: round", x.told(1), 98);
        due.is("nothing is done: held", x.told(2), 97);
        due.is("nothing is done: firm", x.told(15), 4);
        for (int bad : new int[] {10000, -1, LOW, HIGH}) {
            due.is("day seed", x.day(bad, 1, 0), -2);
        }
        for (int bad : new int[] {0, 100, -1, LOW, HIGH}) {
            due.is("day m", x.day(0, bad, 0), -2);
        }
        for (int bad : new int[] {3, -1, LOW, HIGH}) {
            due.is("day what", x.day(0, 1, bad), -2);
        }
    }

    private static void images() {
        SevenRounds x = new SevenRounds();
        due.is("not kept", x.restore(1), -3);
        for (int bad : new int[] {2, -1, LOW, HIGH}) {
            due.is("image outside", x.image(bad), -2);
            due.is("restore outside", x.restore(bad), -2);
        }
        due.is("image(0)", x.image(0), 1);
        due.is("1 is not kept yet", x.restore(1), -3);
        x.part(3, 0, 7);
        x.thread(5, true);
        x.set(0, 11);
        x.set(1, 4);
        x.set(2, 33);
        x.man(6, 2);
        x.seen(8, 2);
        x.say('.');
        due.is("image(1)", x.image(1), 1);
        due.is("restore(0)", x.restore(0), 1);
        int[] whats = {1, 2, 3, 4, 5, 13, 33, 56};
        int[] first = {0, 0, 0, 0, 0, 10, 0, 8};
        int[] second = {33, 11, 4, 32, 1, 0, 7, 2};
        same(x, whats, first);
        due.is("tones as they were", x.tones(), 1023);
        due.is("the pad is not kept", x.told(0), 1);
        x.say('.');
        x.part(3, 50, 5);
        due.is("restore(1)", x.restore(1), 1);
        same(x, whats, second);
        due.is("tones as they were", x.tones(), 256);
        due.is("the pad is not kept", x.told(0), 2);
        x.part(3, 9, 9);
        x.seen(1, 1);
        due.is("restore(1) again", x.restore(1), 1);
        same(x, whats, second);
        x.image(0);
        x.set(0, 1);
        due.is("restore(0) is the newer one", x.restore(0), 1);
        same(x, whats, second);
        SevenRounds y = new SevenRounds();
        due.is("another object has none of it", y.restore(0), -3);
    }

    private static void same(SevenRounds x, int[] whats, int[] want) {
        for (int i = 0; i < whats.length; i++) {
            due.is("told(" + whats[i] + ")", x.told(whats[i]), want[i]);
        }
    }

    private static void told() {
        SevenRounds x = new SevenRounds();
        for (int i = 0; i < 12; i++) {
            x.part(i, 20 + i, i % 10);
        }
        for (int i = 0; i < 8; i++) {
            x.man(i, i);
        }
        for (int i = 0; i < 12; i++) {
            due.is("firm", x.told(10 + i), 20 + i);
            due.is("tone", x.told(30 + i), i % 10);
        }
        for (int i = 0; i < 8; i++) {
            due.is("need", x.told(50 + i), i);
        }
        for (int bad : new int[] {-1, 6, 9, 22, 29, 42, 49, 58, LOW, HIGH}) {
            due.is("told outside", x.told(bad), -2);
        }
    }
}
