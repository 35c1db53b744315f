import java.io.IOException;

/** The edges that the document names for shouts, horns, stretches and watchers, promises 15 to 18. */
public final class ShoutsEdgesTest {
    private static final int NONE = Sentences.NONE, OUTSIDE = Sentences.OUTSIDE, HIGH = Sentences.HIGH;
    // no stretch of it is like another
    private static final int[] UNEVEN = {7, 31, 12, 58, 3, 44, 90, 21, 66, 15, 37, 72};

    private static Sentences due;

    public static void main(String[] args) throws IOException {
        due = new Sentences();
        whereverThePad();
        shoutRounds();
        shoutIfHeld();
        shoutStretch();
        shoutNone();
        shoutNotCounted();
        hornsOf();
        hornsMost();
        hornsLeast();
        hornsOfNone();
        weakestOf();
        weakestOfSeveral();
        turnedWall();
        watchOf();
        watchFewest();
        watchLeast();
        turnedWatch();
        shoutPromise();
        hornsPromise();
        weakestPromise();
        watchPromise();
        due.end();
    }

    private static void whereverThePad() {
        due.says("(As it is now, wherever the PAD.)");
        for (String rounds : new String[] {"", "h", "x", "!", "n", ".".repeat(60), "..........!", "h0".repeat(30)}) {
            SevenRounds x = Sentences.wall(0, 4, 5);
            Sentences.write(x, rounds);
            due.is("shout(1)", x.shout(1), 4);
            due.is("shout(2)", x.shout(2), 5);
            due.is("horns(2, 0)", x.horns(2, 0), 1);
            due.is("horns(2, 1)", x.horns(2, 1), 0);
            due.is("weakest(2, 0)", x.weakest(2, 0), 0);
            due.is("weakest(2, 1)", x.weakest(2, 1), 9);
            due.is("watch(3, 1, 1)", x.watch(3, 1, 1), 1);
            due.is("the pad stays", x.told(0), rounds.length());
        }
    }

    private static void shoutRounds() {
        due.says("SHOUT: the fewest rounds in silence (0 to 99)");
        for (int firm : new int[] {0, 1, 2, 98, 99}) {
            SevenRounds x = Sentences.evenWall(firm, 0);
            due.is("one part of " + firm, x.shout(1), firm);
            due.is("all of " + firm, x.shout(12), firm);
            for (int held : new int[] {1, 50, 98, 99}) {
                x.set(0, held);
                due.is(firm + ", held is " + held, x.shout(1), Math.max(0, firm - held));
                due.is(firm + ", held is " + held, x.shout(12), Math.max(0, firm - held));
            }
        }
    }

    private static void shoutIfHeld() {
        due.says("so that behind them, and a shout then (if something is HELD)");
        SevenRounds x = Sentences.wall(0, 0, 0, 5);
        due.is("down now, nothing is held: 1", x.shout(1), 0);
        due.is("down now, nothing is held: 2", x.shout(2), 0);
        due.is("not down now: 3", x.shout(3), 5);
        x.set(0, 4);
        due.is("one more", x.shout(3), 1);
        x.set(0, 5);
        due.is("by what is held", x.shout(3), 0);
        due.is("all down, nothing held", Sentences.evenWall(0, 0).shout(12), 0);
        due.is("held stays", x.told(2), 5);
        due.is("firm stays", x.told(12), 5);
    }

    private static void shoutStretch() {
        due.says("g PARTS (1 to 12) side by side are DOWN; NONE.");
        SevenRounds x = Sentences.evenWall(99, 0);
        x.part(10, 3, 0);
        x.part(11, 2, 0);
        x.part(0, 1, 0);
        x.part(1, 4, 0);
        due.is("1", x.shout(1), 1);
        due.is("2: 11, 0", x.shout(2), 2);
        due.is("3: 10, 11, 0", x.shout(3), 3);
        due.is("4: 10, 11, 0, 1", x.shout(4), 4);
        due.is("5", x.shout(5), 99);
        due.is("12", x.shout(12), 99);
        x.part(6, 1, 0);
        due.is("6 and 0 are not side by side", x.shout(2), 2);
        due.is("0", x.shout(0), OUTSIDE);
        due.is("13", x.shout(13), OUTSIDE);
    }

    private static void shoutNone() {
        due.says("side by side are DOWN; NONE.");
        for (int thread = 0; thread < 12; thread++) {
            SevenRounds x = Sentences.evenWall(20, 0);
            x.thread(thread, true);
            for (int g = 1; g <= 11; g++) {
                due.is("thread " + thread + ", g " + g, x.shout(g), 20);
            }
            due.is("thread " + thread + ", all", x.shout(12), NONE);
            x.part(thread, 0, 0);
            due.is("the thread is on what is down", x.shout(12), 20);
            x.part(thread, 1, 0);
            due.is("the thread is on 1", x.shout(12), NONE);
        }
        SevenRounds x = Sentences.evenWall(1, 0);
        x.set(0, 99);
        x.thread(2, true);
        x.thread(8, true);
        due.is("five between threads", x.shout(5), 0);
        due.is("six between threads", x.shout(6), NONE);
        x.thread(0, true);
        due.is("five between 2 and 8 yet", x.shout(5), 0);
        x.thread(5, true);
        due.is("three between 8 and 0", x.shout(3), 0);
        due.is("four nowhere", x.shout(4), NONE);
        for (int part = 0; part < 12; part++) {
            x.thread(part, true);
        }
        due.is("all have a thread", x.shout(1), NONE);
    }

    private static void shoutNotCounted() {
        due.says("(Rounds are not counted by 99 here.)");
        SevenRounds x = Sentences.evenWall(99, 0);
        for (int round : new int[] {0, 1, 98, 99}) {
            x.set(2, round);
            due.is("from round " + round, x.shout(12), 99);
        }
    }

    private static void hornsOf() {
        due.says("HORNS: rounds with horns, k of them (0 to 3)");
        SevenRounds x = Sentences.wall(5, 0, 2, 4, 6, 7);
        due.is("-1", x.horns(-1, 0), OUTSIDE);
        due.is("0", x.horns(0, 0), 1);
        due.is("1", x.horns(1, 0), 2);
        due.is("2", x.horns(2, 0), 3);
        due.is("3", x.horns(3, 0), 4);
        due.is("3, which", x.horns(3, 1), 555);
        due.is("4", x.horns(4, 0), OUTSIDE);
        x.set(2, 99);
        due.is("from round 99, too", x.horns(3, 0), 4);
        due.is("nothing is blown", x.told(11), 2);
    }

    private static void hornsMost() {
        due.says("the most PARTS that can be DOWN behind them");
        due.is("all by one round", Sentences.evenWall(2, 7).horns(1, 0), 12);
        due.is("all by one round: of 7", Sentences.evenWall(2, 7).horns(1, 1), 7);
        due.is("none by one", Sentences.evenWall(3, 7).horns(1, 0), 0);
        due.is("all by three", Sentences.evenWall(6, 7).horns(3, 0), 12);
        due.is("none by three", Sentences.evenWall(7, 7).horns(3, 0), 0);
        due.is("all are down", Sentences.evenWall(0, 7).horns(3, 0), 12);
        SevenRounds x = Sentences.evenWall(2, 7);
        x.thread(0, true);
        x.thread(11, true);
        due.is("not those with a thread", x.horns(3, 0), 10);
        x.part(11, 0, 0);
        due.is("but what is down is down", x.horns(3, 0), 11);
        SevenRounds y = Sentences.evenWall(99, 0);
        y.part(0, 1, 0);
        y.part(1, 1, 9);
        due.is("9 is not beside 0: one round", y.horns(1, 0), 1);
        due.is("9 is not beside 0: two", y.horns(2, 0), 2);
        due.is("9 is not beside 0: two, the least", y.horns(2, 1), 8);
        y.part(2, 1, 2);
        due.is("1 takes 0 and 2", y.horns(1, 0), 2);
        due.is("1 takes 0 and 2: which", y.horns(1, 1), 1);
    }

    private static void hornsLeast() {
        due.says("their TONES, as a number of k digits, the first one's the highest, the least such");
        int[] ofNine = {0, 8, 9, 89, 99, 899, 999};
        for (int firm = 0; firm <= 6; firm++) {
            SevenRounds x = Sentences.evenWall(99, 5);
            x.part(4, firm, 9);
            due.is("three for one of tone 9, firm " + firm, x.horns(3, 1), ofNine[firm]);
            due.is("it is down", x.horns(3, 0), 1);
            x.part(4, firm, 0);
            due.is("three for one of tone 0, firm " + firm, x.horns(3, 1), 0);
        }
        SevenRounds x = Sentences.evenWall(99, 5);
        x.part(4, 7, 9);
        due.is("none can be down: the least of all", x.horns(3, 1), 0);
        x.part(4, 2, 3);
        x.part(8, 2, 7);
        due.is("the lower one first", x.horns(2, 1), 37);
        due.is("one of the two", x.horns(1, 1), 3);
        x.part(9, 2, 5);
        due.is("three, going up", x.horns(3, 1), 357);
    }

    private static void hornsOfNone() {
        due.says("the least such (0: k is 0).");
        due.is("none is down", new SevenRounds().horns(0, 0), 0);
        due.is("no tones", new SevenRounds().horns(0, 1), 0);
        due.is("all are down", Sentences.evenWall(0, 9).horns(0, 0), 12);
        due.is("no tones", Sentences.evenWall(0, 9).horns(0, 1), 0);
        due.is("1 is not down", Sentences.evenWall(1, 9).horns(0, 0), 0);
    }

    private static void weakestOf() {
        due.says("WEAKEST: g PARTS (1 to 12) side by side that are least FIRM together");
        SevenRounds x = Sentences.evenWall(50, 0);
        x.part(10, 30, 0);
        x.part(11, 20, 0);
        x.part(0, 20, 0);
        x.part(1, 31, 0);
        int[] first = {0, 11, 10, 10};
        int[] firm = {20, 40, 70, 101};
        for (int g = 1; g <= 4; g++) {
            due.is("first of " + g, x.weakest(g, 0), first[g - 1]);
            due.is("firm of " + g, x.weakest(g, 1), firm[g - 1]);
        }
        due.is("all: first", x.weakest(12, 0), 0);
        due.is("all: firm", x.weakest(12, 1), 8 * 50 + 101);
        due.is("eleven leave out a firmest", x.weakest(11, 0), 3);
        due.is("eleven leave out a firmest", x.weakest(11, 1), 7 * 50 + 101);
        due.is("0", x.weakest(0, 0), OUTSIDE);
        due.is("13", x.weakest(13, 0), OUTSIDE);
        due.is("the firmest wall", Sentences.evenWall(99, 0).weakest(12, 1), 1188);
        due.is("the wall that is down", Sentences.evenWall(0, 0).weakest(12, 1), 0);
    }

    private static void weakestOfSeveral() {
        due.says("the first of them (going up), the least of several; how FIRM together.");
        for (int g = 1; g <= 12; g++) {
            due.is("all alike, g " + g, Sentences.evenWall(7, 0).weakest(g, 0), 0);
            due.is("all alike, g " + g, Sentences.evenWall(7, 0).weakest(g, 1), 7 * g);
        }
        SevenRounds x = new SevenRounds();
        x.part(11, 9, 0);
        due.is("11 alone", x.weakest(1, 0), 11);
        due.is("10, 11 ahead of 11, 0", x.weakest(2, 0), 10);
        due.is("0 to 11 ahead of all others", x.weakest(12, 0), 0);
        x.part(0, 9, 0);
        due.is("0 ahead of 11", x.weakest(1, 0), 0);
        due.is("11, 0", x.weakest(2, 0), 11);
        due.is("10, 11, 0 ahead of 11, 0, 1", x.weakest(3, 0), 10);
        due.is("firm", x.weakest(3, 1), 28);
        due.is("all", x.weakest(12, 0), 0);
        due.is("eleven leave out one of ten: firm", x.weakest(11, 1), 108);
        due.is("eleven leave out one of ten: 2 up to 0 leave out 1", x.weakest(11, 0), 2);
    }

    /** The ring has no beginning: a turned wall has the same stretches, turned. */
    private static void turnedWall() {
        due.says("side by side that are least FIRM together: the first of them (going up)");
        for (int turn = 0; turn < 12; turn++) {
            SevenRounds x = new SevenRounds();
            for (int part = 0; part < 12; part++) {
                x.part((part + turn) % 12, UNEVEN[part], 0);
            }
            for (int g = 1; g <= 11; g++) {
                int first = -1;
                int least = HIGH;
                int noise = HIGH;
                for (int from = 0; from < 12; from++) {
                    int together = 0;
                    int most = 0;
                    for (int i = 0; i < g; i++) {
                        together += UNEVEN[(from + i) % 12];
                        most = Math.max(most, UNEVEN[(from + i) % 12]);
                    }
                    first = together < least ? from : first;
                    least = Math.min(least, together);
                    noise = Math.min(noise, most);
                }
                due.is("turned by " + turn + ", first of " + g, x.weakest(g, 0), (first + turn) % 12);
                due.is("turned by " + turn + ", firm of " + g, x.weakest(g, 1), least);
                due.is("turned by " + turn + ", shout(" + g + ")", x.shout(g), noise);
            }
        }
    }

    private static void watchOf() {
        due.says("WATCH: who stands on a PART sees that one, and r PARTS (0 to 3) on both sides");
        SevenRounds x = new SevenRounds();
        for (int r = 0; r <= 3; r++) {
            for (int middle = 0; middle < 12; middle++) {
                int all = 1 << middle;
                for (int side = 1; side <= r; side++) {
                    all |= 1 << (middle + side) % 12 | 1 << (middle + 12 - side) % 12;
                }
                due.is(r + " on both sides of " + middle, x.watch(all, r, 0), 1);
                due.is(r + " on both sides of " + middle, x.watch(all, r, 1), 1L << middle);
                int more = all | 1 << (middle + r + 1) % 12;
                due.is(r + " and one more behind " + middle, x.watch(more, r, 0), 2);
            }
        }
        due.is("r -1", x.watch(1, -1, 0), OUTSIDE);
        due.is("r 4", x.watch(1, 4, 0), OUTSIDE);
    }

    private static void watchFewest() {
        due.says("the fewest PARTS to stand on so that all of a set are seen");
        SevenRounds x = new SevenRounds();
        int[] all = {12, 4, 3, 2};
        for (int r = 0; r <= 3; r++) {
            due.is("nothing is to be seen, r " + r, x.watch(0, r, 0), 0);
            due.is("nothing is to be seen, r " + r, x.watch(0, r, 1), 0);
            due.is("all, r " + r, x.watch(4095, r, 0), all[r]);
        }
        due.is("all, 3", x.watch(4095, 3, 1), 33);
        due.is("seven over the seam", x.watch(512 + 1024 + 2048 + 1 + 2 + 4 + 8, 3, 1), 1);
        due.is("eight over the seam", x.watch(256 + 512 + 1024 + 2048 + 1 + 2 + 4 + 8, 3, 0), 2);
        due.is("0 and 6 from 3", x.watch(65, 3, 1), 8);
        due.is("6 and 0 at 2", x.watch(65, 2, 0), 2);
        due.is("0 and 7 from 9 or 10, over the seam", x.watch(1 + 128, 3, 1), 512);
        x.part(3, 0, 0);
        due.is("from what is down, too", x.watch(65, 3, 1), 8);
    }

    private static void watchLeast() {
        due.says("how many; which, least as bits of as few.");
        SevenRounds x = new SevenRounds();
        for (int r = 0; r <= 3; r++) {
            for (int part = 0; part < 12; part++) {
                int least = part - r;
                // over the seam part 0 sees back to 12 - r, and ahead of r all see part 0
                int want = least <= 0 || part >= 12 - r ? 1 : 1 << least;
                due.is("part " + part + ", r " + r, x.watch(1 << part, r, 1), want);
            }
        }
        due.is("all, 1", x.watch(4095, 1, 1), 1 + 8 + 64 + 512);
        due.is("all, 2", x.watch(4095, 2, 1), 1 + 4 + 128);
        due.is("all, 3: 0 and 5", x.watch(4095, 3, 1), 33);
        due.is("fewer ahead of less", x.watch(2048 + 512, 1, 1), 1024);
    }

    private static void turnedWatch() {
        due.says("r PARTS (0 to 3) on both sides: the fewest PARTS");
        SevenRounds x = new SevenRounds();
        for (int r = 0; r <= 3; r++) {
            for (int set : new int[] {1, 3, 5, 9, 65, 129, 585, 1365, 127, 255}) {
                int few = x.watch(set, r, 0);
                for (int turn = 1; turn < 12; turn++) {
                    int turned = (set << turn | set >> 12 - turn) & 4095;
                    due.is(set + " turned by " + turn + ", r " + r, new SevenRounds().watch(turned, r, 0), few);
                }
            }
        }
    }

    private static void shoutPromise() {
        due.promises(15, "SHOUT; NONE. OUTSIDE.");
        SevenRounds x = new SevenRounds();
        due.is("1", x.shout(1), 10);
        due.is("12", x.shout(12), 10);
        due.is("0", x.shout(0), OUTSIDE);
        due.is("13", x.shout(13), OUTSIDE);
        due.is("-1", x.shout(-1), OUTSIDE);
        x.thread(5, true);
        due.is("none", x.shout(12), NONE);
        due.is("outside ahead of none", x.shout(13), OUTSIDE);
    }

    private static void hornsPromise() {
        due.promises(16, "HORNS: how many (what = 0), TONES (1). OUTSIDE.");
        SevenRounds x = Sentences.evenWall(1, 4);
        due.is("how many", x.horns(1, 0), 12);
        due.is("tones", x.horns(1, 1), 3);
        due.is("what -1", x.horns(1, -1), OUTSIDE);
        due.is("what 2", x.horns(1, 2), OUTSIDE);
        due.is("what 2 of none", x.horns(0, 2), OUTSIDE);
        due.is("k -1", x.horns(-1, 1), OUTSIDE);
        due.is("k 4", x.horns(4, 1), OUTSIDE);
    }

    private static void weakestPromise() {
        due.promises(17, "WEAKEST: the first (what = 0), how FIRM (1). OUTSIDE.");
        SevenRounds x = Sentences.wall(0, 10, 10, 10, 10, 10, 10, 10, 10, 10, 10, 10, 4);
        due.is("the first", x.weakest(1, 0), 11);
        due.is("how firm", x.weakest(1, 1), 4);
        due.is("what -1", x.weakest(1, -1), OUTSIDE);
        due.is("what 2", x.weakest(1, 2), OUTSIDE);
        due.is("g 0", x.weakest(0, 1), OUTSIDE);
        due.is("g 13", x.weakest(13, 1), OUTSIDE);
    }

    private static void watchPromise() {
        due.promises(18, "WATCH: how many (what = 0), which (1). OUTSIDE: the set 0 to 4095, too.");
        SevenRounds x = new SevenRounds();
        due.is("how many", x.watch(4095, 0, 0), 12);
        due.is("which", x.watch(4095, 0, 1), 4095);
        due.is("set 0", x.watch(0, 0, 1), 0);
        due.is("set -1", x.watch(-1, 0, 0), OUTSIDE);
        due.is("set 4096", x.watch(4096, 0, 0), OUTSIDE);
        due.is("what -1", x.watch(0, 0, -1), OUTSIDE);
        due.is("what 2", x.watch(0, 0, 2), OUTSIDE);
        due.is("r -1 of no set", x.watch(0, -1, 0), OUTSIDE);
        due.is("r 4 of no set", x.watch(0, 4, 0), OUTSIDE);
    }
}
