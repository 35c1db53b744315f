/** Promises 19 to 24: seen, forget, tones, next, chain, quiet. */
public final class EchoesTest {
    private static final Due due = new Due();
    private static final int LOW = Integer.MIN_VALUE, HIGH = Integer.MAX_VALUE;

    public static void main(String[] args) {
        sights();
        next();
        chain();
        quiet();
        wrongNumbers();
        due.end();
    }

    private static void sights() {
        SevenRounds x = new SevenRounds();
        due.is("forget nothing", x.forget(), 0);
        due.is("all tones", x.tones(), 1023);
        due.is("seen(9, 1)", x.seen(9, 1), 1);
        due.is("behind 9 there is none", x.tones(), 256);
        due.is("forget", x.forget(), 1);
        due.is("seen(0, 1)", x.seen(0, 1), 1);
        due.is("before 0 there is none", x.tones(), 2);
        due.is("forget", x.forget(), 1);
        due.is("seen(4, 0)", x.seen(4, 0), 1);
        due.is("not 3, 4, 5", x.tones(), 1023 - 8 - 16 - 32);
        due.is("seen(6, 1)", x.seen(6, 1), 2);
        due.is("5 is out, 7 is left", x.tones(), 128);
        for (int i = 3; i <= 8; i++) {
            due.is("seen", x.seen(7, 2), i);
        }
        due.is("full", x.seen(7, 2), -4);
        due.is("outside before full", x.seen(10, 2), -2);
        due.is("what is refused is not seen", x.seen(7, 0), -4);
        due.is("tones", x.tones(), 128);
        due.is("told(5)", x.told(5), 8);
        due.is("forget", x.forget(), 8);
        due.is("told(5)", x.told(5), 0);
        due.is("tones", x.tones(), 1023);
    }

    private static void next() {
        SevenRounds x = new SevenRounds();
        due.is("of all: 1", x.next(0), 1);
        due.is("of all: 7 left", x.next(1), 7);
        x.seen(1, 0);
        due.is("of 3 to 9", x.tones(), 1016);
        due.is("of 3 to 9: 4", x.next(0), 4);
        due.is("of 3 to 9: 4 left", x.next(1), 4);
        x.seen(4, 0);
        due.is("of 6 to 9", x.tones(), 960);
        due.is("of 6 to 9: 6 leaves 7 | 6 | 8, 9", x.next(0), 6);
        due.is("of 6 to 9: 2", x.next(1), 2);
        x.seen(4, 2);
        due.is("none fits", x.tones(), 0);
        due.is("none fits", x.next(0), -6);
        due.is("none fits", x.next(1), -6);
        due.is("outside before none", x.next(2), -2);
    }

    private static void chain() {
        SevenRounds x = new SevenRounds();
        due.is("nobody", x.chain(0), 0);
        due.is("all anyway", x.chain(255), 255);
        for (int man = 0; man < 8; man++) {
            x.man(man, 7 - man);
        }
        due.is("one moves the next, up to all", x.chain(0), 255);
        x.man(7, 1);
        due.is("nobody begins", x.chain(0), 0);
        due.is("0 begins", x.chain(1), 255);
        x.man(5, 8);
        due.is("8 is never reached", x.chain(1), 255 - 32);
        due.is("who speaks anyway needs none", x.chain(32), 255);
        x.man(4, 8);
        due.is("the chain breaks", x.chain(1), 1 + 64 + 128);
        SevenRounds y = new SevenRounds();
        y.man(0, 1);
        due.is("others: he himself does not count", y.chain(0), 0);
        due.is("others: he speaks anyway", y.chain(1), 1);
        y.man(0, 7);
        due.is("seven others", y.chain(254), 255);
    }

    private static void quiet() {
        SevenRounds x = new SevenRounds();
        due.is("nobody speaks", x.quiet(0, 0, 0), 0);
        due.is("nobody speaks", x.quiet(0, 0, 1), 0);
        due.is("too many anyway", x.quiet(7, 2, 0), -6);
        due.is("too many anyway", x.quiet(7, 2, 1), -6);
        due.is("as many anyway", x.quiet(7, 3, 1), 0);
        for (int man = 0; man < 8; man++) {
            x.man(man, 0);
        }
        due.is("all but two", x.quiet(0, 2, 0), 6);
        due.is("all but two, least as bits", x.quiet(0, 2, 1), 63);
        due.is("others than these", x.quiet(1, 2, 1), 126);
        due.is("all", x.quiet(0, 0, 1), 255);
        due.is("eight may", x.quiet(0, 8, 1), 0);
        x.man(0, 6);
        x.man(1, 5);
        x.man(2, 4);
        x.man(3, 3);
        x.man(4, 2);
        x.man(5, 1);
        x.man(6, 8);
        due.is("one link stops all behind it", x.quiet(0, 1, 0), 1);
        due.is("one link stops all behind it", x.quiet(0, 1, 1), 32);
        due.is("the head", x.quiet(0, 0, 1), 128);
        due.is("least as bits of one", x.quiet(0, 3, 1), 8);
    }

    private static void wrongNumbers() {
        SevenRounds x = new SevenRounds();
        for (int bad : new int[] {10, -1, LOW, HIGH}) {
            due.is("seen tone", x.seen(bad, 0), -2);
        }
        for (int bad : new int[] {3, -1, LOW, HIGH}) {
            due.is("seen less", x.seen(0, bad), -2);
        }
        for (int bad : new int[] {256, -1, LOW, HIGH}) {
            due.is("chain unknown", x.chain(bad), -1);
            due.is("quiet unknown", x.quiet(bad, 0, 0), -1);
            due.is("quiet unknown first", x.quiet(bad, 9, 2), -1);
        }
        for (int bad : new int[] {9, -1, LOW, HIGH}) {
            due.is("quiet v", x.quiet(0, bad, 0), -2);
        }
        for (int bad : new int[] {2, -1, LOW, HIGH}) {
            due.is("quiet what", x.quiet(0, 0, bad), -2);
            due.is("next what", x.next(bad), -2);
        }
        due.is("nothing seen", x.told(5), 0);
    }
}
