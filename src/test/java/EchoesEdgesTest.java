import java.io.IOException;

/** The edges that the document names for sights, tones and men, promises 19 to 24. */
public final class EchoesEdgesTest {
    private static final int NONE = Sentences.NONE, UNKNOWN = Sentences.UNKNOWN, OUTSIDE = Sentences.OUTSIDE;
    private static final int FULL = Sentences.FULL;

    private static Sentences due;

    public static void main(String[] args) throws IOException {
        due = new Sentences();
        eightSights();
        lessFirm();
        allSights();
        nextToBlow();
        nextOfFew();
        needs();
        enoughOthers();
        chainToTheEnd();
        quietOthers();
        quietOfNone();
        quietLeast();
        seenPromise();
        forgetPromise();
        tonesPromise();
        nextPromise();
        chainPromise();
        quietPromise();
        due.end();
    }

    private static SevenRounds sights(int... tonesAndLess) {
        SevenRounds x = new SevenRounds();
        for (int i = 0; i + 1 < tonesAndLess.length; i += 2) {
            x.seen(tonesAndLess[i], tonesAndLess[i + 1]);
        }
        return x;
    }

    private static SevenRounds men(int... needs) {
        SevenRounds x = new SevenRounds();
        for (int man = 0; man < needs.length; man++) {
            x.man(man, needs[man]);
        }
        return x;
    }

    private static void eightSights() {
        due.says("SIGHTS, 8 at most");
        SevenRounds x = new SevenRounds();
        for (int n = 1; n <= 8; n++) {
            due.is("sight " + n, x.seen(n == 8 ? 5 : 0, 0), n);
        }
        due.is("the eighth counts", x.tones(), 1023 - 1 - 2 - 16 - 32 - 64);
        due.is("the ninth", x.seen(9, 2), FULL);
        due.is("does not", x.tones(), 1023 - 1 - 2 - 16 - 32 - 64);
        due.is("eight stand", x.told(5), 8);
        due.is("the ninth again", x.seen(9, 0), FULL);
        due.is("all go", x.forget(), 8);
        due.is("there is room again", x.seen(9, 2), 1);
        due.is("and only the new one counts", x.tones(), 512);
    }

    private static void lessFirm() {
        due.says("by horns of a TONE one PART, the same all times, was 0, 1 or 2 less FIRM.");
        for (int tone = 0; tone < 10; tone++) {
            int near = (tone > 0 ? 1 << tone - 1 : 0) | (tone < 9 ? 1 << tone + 1 : 0);
            due.is("2 less by " + tone, sights(tone, 2).tones(), 1L << tone);
            due.is("1 less by " + tone, sights(tone, 1).tones(), near);
            due.is("0 less by " + tone, sights(tone, 0).tones(), 1023 & ~near & ~(1 << tone));
            due.is("3 less", new SevenRounds().seen(tone, 3), OUTSIDE);
            due.is("-1 less", new SevenRounds().seen(tone, -1), OUTSIDE);
        }
        due.is("tone 10", new SevenRounds().seen(10, 0), OUTSIDE);
        due.is("tone -1", new SevenRounds().seen(-1, 0), OUTSIDE);
        SevenRounds x = sights(3, 2);
        due.is("sights have to do with no part of the wall", x.told(33), 0);
    }

    private static void allSights() {
        due.says("TONES: those by which all SIGHTS are so, as bits.");
        due.is("no sights: all", sights().tones(), 1023);
        due.is("one above or below", sights(5, 1).tones(), 64 + 16);
        due.is("twice the same", sights(5, 1, 5, 1).tones(), 64 + 16);
        due.is("one of the two", sights(5, 1, 7, 1).tones(), 64);
        due.is("none of the two", sights(5, 1, 6, 1).tones(), 0);
        due.is("none stays none", sights(5, 1, 6, 1, 5, 2).tones(), 0);
        due.is("twice, not the same", sights(5, 1, 5, 2).tones(), 0);
        due.is("0 and 9 alone", sights(2, 0, 5, 0, 7, 0).tones(), 1 + 512);
        due.is("none: all are left out", sights(1, 0, 4, 0, 7, 0, 9, 0).tones(), 0);
    }

    private static void nextToBlow() {
        due.says("NEXT: the TONE of horns to blow next, so that, by however much it is less FIRM,"
                + " fewest of these are left at the most: the least; how many.");
        SevenRounds all = new SevenRounds();
        due.is("of all ten: 1 parts 1 from 0, 2 from seven", all.next(0), 1);
        due.is("of all ten: seven", all.next(1), 7);
        SevenRounds two = sights(5, 1);
        due.is("of 4 and 6: 3 parts them", two.next(0), 3);
        due.is("of 4 and 6: one", two.next(1), 1);
        SevenRounds ends = sights(2, 0, 5, 0, 7, 0);
        due.is("of 0 and 9: 0 parts them", ends.next(0), 0);
        due.is("of 0 and 9: one", ends.next(1), 1);
        SevenRounds four = sights(1, 0, 4, 0);
        due.is("of 6 to 9: 6 leaves 8 and 9 at the most", four.next(0), 6);
        due.is("of 6 to 9: two", four.next(1), 2);
        due.is("asking changes nothing", four.tones(), 960);
        due.is("asking changes nothing", four.told(5), 2);
    }

    private static void nextOfFew() {
        due.says("NEXT: the TONE (what = 0), how many (1); NONE: no TONE fits.");
        for (int tone = 0; tone < 10; tone++) {
            due.is("one fits: whatever is blown", sights(tone, 2).next(0), 0);
            due.is("one fits: one is left", sights(tone, 2).next(1), 1);
        }
        due.is("none fits", sights(5, 2, 5, 1).next(0), NONE);
        due.is("none fits", sights(5, 2, 5, 1).next(1), NONE);
    }

    private static void needs() {
        due.says("MEN 0 to 7 each NEED some others to speak (0 to 8; 8 at first)");
        SevenRounds x = new SevenRounds();
        for (int man = 0; man < 8; man++) {
            due.is("8 at first, man " + man, x.told(50 + man), 8);
        }
        due.is("man 7", x.man(7, 0), 8);
        due.is("man 8", x.man(8, 0), UNKNOWN);
        due.is("man -1", x.man(-1, 0), UNKNOWN);
        due.is("need 9", x.man(0, 9), OUTSIDE);
        due.is("need -1", x.man(0, -1), OUTSIDE);
        due.is("need of 0 stays", x.told(50), 8);
    }

    private static void enoughOthers() {
        due.says("who speaks does so, if that many others at least do.");
        for (int man = 0; man < 8; man++) {
            int others = 255 - (1 << man);
            SevenRounds x = new SevenRounds();
            x.man(man, 0);
            due.is("0: by himself", x.chain(0), 1L << man);
            x.man(man, 1);
            due.is("1: he is no other of himself", x.chain(0), 0);
            due.is("1: by one", x.chain(man == 0 ? 2 : 1), (man == 0 ? 2 : 1) | 1L << man);
            x.man(man, 7);
            due.is("7: by all others", x.chain(others), 255);
            due.is("7: not by six", x.chain(others & others - 1), others & others - 1);
            x.man(man, 8);
            due.is("8: not by all others", x.chain(others), others);
            due.is("8: anyway", x.chain(1 << man), 1L << man);
        }
    }

    private static void chainToTheEnd() {
        due.says("CHAIN: some speak anyway: who does in the end, as bits.");
        due.is("nobody", new SevenRounds().chain(0), 0);
        due.is("all", new SevenRounds().chain(255), 255);
        SevenRounds down = men(7, 6, 5, 4, 3, 2, 1, 0);
        due.is("7 begins, 0 is last", down.chain(0), 255);
        SevenRounds up = men(0, 1, 2, 3, 4, 5, 6, 7);
        due.is("0 begins, 7 is last", up.chain(0), 255);
        up.man(0, 1);
        due.is("nobody begins", up.chain(0), 0);
        due.is("7 begins, anyway", up.chain(128), 255);
        SevenRounds gap = men(0, 1, 3, 3, 3, 3, 3, 3);
        due.is("two are not three", gap.chain(0), 3);
        due.is("with one more all", gap.chain(128), 255);
    }

    private static void quietOthers() {
        due.says("QUIET: the fewest MEN, others than these, to be kept silent (they never speak)"
                + " so that v (0 to 8) at most speak in the end");
        SevenRounds all = men(0, 0, 0, 0, 0, 0, 0, 0);
        for (int v = 0; v <= 8; v++) {
            due.is("all speak by themselves, v " + v, all.quiet(0, v, 0), 8 - v);
            due.is("which, v " + v, all.quiet(0, v, 1), (1L << 8 - v) - 1);
        }
        due.is("v -1", all.quiet(0, -1, 0), OUTSIDE);
        due.is("v 9", all.quiet(0, 9, 0), OUTSIDE);
        due.is("not these: 0", all.quiet(1, 7, 1), 2);
        due.is("not these: 0 to 3", all.quiet(15, 4, 1), 240);
        due.is("not these: 0 to 6", all.quiet(127, 7, 1), 128);
        SevenRounds chain = men(0, 1, 2, 3, 4, 5, 6, 7);
        due.is("0 silent stops all", chain.quiet(0, 0, 1), 1);
        due.is("0 speaks anyway: 1 silent stops all others", chain.quiet(1, 1, 1), 2);
        due.is("six: 1 is less than 6", chain.quiet(1, 6, 1), 2);
        due.is("eight may: nobody is kept", chain.quiet(1, 8, 0), 0);
    }

    private static void quietOfNone() {
        due.says("how many; which, least as bits of as few; NONE.");
        for (int v = 0; v <= 8; v++) {
            for (int anyway = 0; anyway <= 8; anyway++) {
                int set = (1 << anyway) - 1;
                int want = anyway > v ? NONE : 0;
                due.is(anyway + " speak anyway, v " + v, new SevenRounds().quiet(set, v, 0), want);
                due.is(anyway + " speak anyway, v " + v, new SevenRounds().quiet(set, v, 1), want);
            }
        }
    }

    private static void quietLeast() {
        due.says("which, least as bits of as few; NONE.");
        SevenRounds x = men(8, 8, 8, 8, 8, 8, 1, 0);
        due.is("7 alone stops 6 and 7", x.quiet(0, 0, 0), 1);
        due.is("7 alone stops 6 and 7", x.quiet(0, 0, 1), 128);
        due.is("6 is less than 7", x.quiet(0, 1, 1), 64);
        x.man(0, 0);
        due.is("two may: 0 silent lets 6 and 7", x.quiet(0, 2, 1), 1);
        due.is("one may: two are kept", x.quiet(0, 1, 0), 2);
        due.is("one may: 0 and 6", x.quiet(0, 1, 1), 65);
        due.is("none may: 0 and 7", x.quiet(0, 0, 1), 129);
        due.is("needs stay", x.told(50), 0);
    }

    private static void seenPromise() {
        due.promises(19, "A SIGHT more: how many. OUTSIDE; FULL.");
        SevenRounds x = new SevenRounds();
        due.is("tone 0, less 0", x.seen(0, 0), 1);
        due.is("tone 9, less 2", x.seen(9, 2), 2);
        due.is("tone 10", x.seen(10, 2), OUTSIDE);
        due.is("less 3", x.seen(9, 3), OUTSIDE);
        due.is("what is refused does not count", x.seen(9, 2), 3);
        for (int n = 4; n <= 8; n++) {
            due.is("sight " + n, x.seen(9, 2), n);
        }
        due.is("full", x.seen(9, 2), FULL);
        due.is("outside ahead of full: tone", x.seen(-1, 0), OUTSIDE);
        due.is("outside ahead of full: less", x.seen(0, 3), OUTSIDE);
        due.is("tones", x.tones(), 512);
    }

    private static void forgetPromise() {
        due.promises(20, "SIGHTS go: how many there were.");
        SevenRounds x = new SevenRounds();
        due.is("none", x.forget(), 0);
        x.seen(4, 2);
        due.is("one", x.forget(), 1);
        due.is("none again", x.forget(), 0);
        due.is("all tones fit", x.tones(), 1023);
        for (int n = 0; n < 8; n++) {
            x.seen(n, 2);
        }
        due.is("none fits", x.next(0), NONE);
        due.is("eight", x.forget(), 8);
        due.is("all tones fit", x.tones(), 1023);
        due.is("sights", x.told(5), 0);
    }

    private static void tonesPromise() {
        due.promises(21, "TONES, as bits.");
        due.is("all", new SevenRounds().tones(), 1023);
        due.is("the least", sights(0, 2).tones(), 1);
        due.is("the highest", sights(9, 2).tones(), 512);
        due.is("none", sights(0, 2, 9, 2).tones(), 0);
    }

    private static void nextPromise() {
        due.promises(22, "NEXT: the TONE (what = 0), how many (1); NONE: no TONE fits. OUTSIDE.");
        SevenRounds x = new SevenRounds();
        due.is("-1", x.next(-1), OUTSIDE);
        due.is("2", x.next(2), OUTSIDE);
        x.seen(0, 2);
        x.seen(9, 2);
        due.is("none fits", x.next(0), NONE);
        due.is("none fits", x.next(1), NONE);
        due.is("outside ahead of none: -1", x.next(-1), OUTSIDE);
        due.is("outside ahead of none: 2", x.next(2), OUTSIDE);
    }

    private static void chainPromise() {
        due.promises(23, "CHAIN, as bits. UNKNOWN: the set 0 to 255.");
        SevenRounds x = new SevenRounds();
        due.is("0", x.chain(0), 0);
        due.is("255", x.chain(255), 255);
        due.is("-1", x.chain(-1), UNKNOWN);
        due.is("256", x.chain(256), UNKNOWN);
        due.is("a whole number more of 256", x.chain(65536 + 1), UNKNOWN);
    }

    private static void quietPromise() {
        due.promises(24, "QUIET: how many (what = 0), which (1); NONE. UNKNOWN: the set, likewise; OUTSIDE.");
        SevenRounds x = new SevenRounds();
        due.is("set 0", x.quiet(0, 0, 0), 0);
        due.is("set 255", x.quiet(255, 8, 1), 0);
        due.is("set 255 of seven", x.quiet(255, 7, 1), NONE);
        due.is("set -1", x.quiet(-1, 0, 0), UNKNOWN);
        due.is("set 256", x.quiet(256, 0, 0), UNKNOWN);
        due.is("v -1", x.quiet(0, -1, 0), OUTSIDE);
        due.is("v 9", x.quiet(0, 9, 0), OUTSIDE);
        due.is("what -1", x.quiet(0, 0, -1), OUTSIDE);
        due.is("what 2", x.quiet(0, 0, 2), OUTSIDE);
        due.is("unknown ahead of outside: v", x.quiet(256, 9, 0), UNKNOWN);
        due.is("unknown ahead of outside: what", x.quiet(-1, 0, 2), UNKNOWN);
        due.is("outside ahead of none", x.quiet(255, 0, 2), OUTSIDE);
    }
}
