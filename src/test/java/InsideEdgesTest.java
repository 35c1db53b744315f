import java.io.IOException;
import java.util.Arrays;

/** The edges that the document names for water, lots, days, images and what is told, promises 25 to 30. */
public final class InsideEdgesTest {
    private static final int OUTSIDE = Sentences.OUTSIDE, STATE = Sentences.STATE;
    private static final long LOST = -1000000000000000000L;

    private static Sentences due;

    public static void main(String[] args) throws IOException {
        due = new Sentences();
        lowestTerms();
        lostAndTheRefusal();
        daysOfWater();
        tenths();
        withoutWater();
        doingBest();
        openIfTheSame();
        waterPromise();
        lotsOfAny();
        inTheWorstCase();
        lotsInTurn();
        lotsPromise();
        daySeeds();
        dayActs();
        dayDraws();
        dayIfItCanBe();
        dayIsNotDone();
        dayPromise();
        imagePromise();
        restorePromise();
        imagesKeepAll();
        toldPromise();
        toldGaps();
        due.end();
    }

    private static long common(long a, long b) {
        return b == 0 ? a : common(b, a % b);
    }

    private static void lowestTerms() {
        due.says("Fractions are told in lowest terms by part: 0 the upper, 1 the lower number");
        for (int w = 0; w <= 9; w++) {
            for (int t = 0; t <= 10; t++) {
                SevenRounds x = new SevenRounds();
                long upper = x.water(w, t, 0, 0);
                long lower = x.water(w, t, 0, 1);
                due.holds("the lower number of " + w + ", " + t, lower >= 1);
                due.is("nothing is common to " + upper + ", " + lower, common(lower, upper), 1);
            }
        }
        due.is("nothing is 0 by 1: 0", new SevenRounds().water(0, 10, 0, 0), 0);
        due.is("nothing is 0 by 1: 1", new SevenRounds().water(0, 10, 0, 1), 1);
        due.is("48.8 is 244 by 5: 244", new SevenRounds().water(3, 2, 0, 0), 244);
        due.is("48.8 is 244 by 5: 5", new SevenRounds().water(3, 2, 0, 1), 5);
    }

    private static void lostAndTheRefusal() {
        due.says("refused with LOST and the refusal.");
        due.is("LOST", SevenRounds.LOST, LOST);
        for (int what = 0; what < 2; what++) {
            for (int part = 0; part < 2; part++) {
                due.is("w 10", new SevenRounds().water(10, 0, what, part), LOST - 2);
                due.is("t 11", new SevenRounds().water(0, 11, what, part), LOST - 2);
            }
        }
    }

    private static void water(int w, int t, long upper, long lower, int opens) {
        SevenRounds x = new SevenRounds();
        due.is("upper of " + w + ", " + t, x.water(w, t, 0, 0), upper);
        due.is("lower of " + w + ", " + t, x.water(w, t, 0, 1), lower);
        due.is("opens, " + w + ", " + t, x.water(w, t, 1, 0), opens);
        due.is("opens, " + w + ", " + t, x.water(w, t, 1, 1), opens);
    }

    private static void daysOfWater() {
        due.says("WATER: those inside have water for w days (0 to 9); on each day they may open,"
                + " and keep 10 for each day that they have water for yet");
        for (int w = 1; w <= 9; w++) {
            water(w, 0, 10L * w, 1, 1);
        }
        due.is("w 10", new SevenRounds().water(10, 0, 0, 0), LOST + OUTSIDE);
        due.is("w -1", new SevenRounds().water(-1, 0, 0, 0), LOST + OUTSIDE);
    }

    private static void tenths() {
        due.says("or wait: with t tenths (0 to 10) the army leaves, and they keep 100, else it is a day less.");
        for (int w = 1; w <= 9; w++) {
            water(w, 10, 100, 1, 0);
        }
        for (int t = 2; t <= 9; t++) {
            water(1, t, 10L * t, 1, 0);
        }
        water(2, 9, 99, 1, 0);
        water(3, 9, 999, 10, 0);
        water(9, 9, 999999999L, 10000000L, 0);
        water(2, 5, 75, 1, 0);
        water(3, 5, 175, 2, 0);
        due.is("t 11", new SevenRounds().water(9, 11, 0, 0), LOST + OUTSIDE);
        due.is("t -1", new SevenRounds().water(9, -1, 0, 0), LOST + OUTSIDE);
    }

    private static void withoutWater() {
        due.says("Without water all is lost (0).");
        for (int t = 0; t <= 10; t++) {
            water(0, t, 0, 1, 1);
        }
    }

    /** What is kept, times ten for each day of water, by those who open on the days that are bits. */
    private static long keptBy(int openOn, int w, int t) {
        long kept = 0;
        long scale = 1;
        for (int day = 1; day <= w; day++) {
            scale *= 10;
            boolean opens = (openOn >> day & 1) == 1;
            kept = opens ? 10L * day * scale : 10L * t * scale + (10 - t) * kept;
        }
        return kept;
    }

    private static void doingBest() {
        due.says("What they keep in the mean, doing best");
        for (int w = 0; w <= 9; w++) {
            for (int t = 0; t <= 10; t++) {
                long best = 0;
                for (int openOn = 0; openOn < 2 << w; openOn++) {
                    best = Math.max(best, keptBy(openOn, w, t));
                }
                long scale = 1;
                for (int day = 0; day < w; day++) {
                    scale *= 10;
                }
                SevenRounds x = new SevenRounds();
                long lower = x.water(w, t, 0, 1);
                due.holds("the lower number parts " + scale, lower > 0 && scale % lower == 0);
                due.is("the mean of " + w + ", " + t, x.water(w, t, 0, 0) * (scale / Math.max(1, lower)), best);
                boolean opens = w == 0 || best == 10L * w * scale;
                due.is("opens, " + w + ", " + t, x.water(w, t, 1, 0), opens ? 1 : 0);
            }
        }
    }

    private static void openIfTheSame() {
        due.says("whether they open at once (1, 0; if it is the same, they do; without water 1).");
        water(1, 1, 10, 1, 1);
        water(1, 2, 20, 1, 0);
        water(2, 1, 20, 1, 1);
        water(9, 1, 90, 1, 1);
        // with two tenths they wait for up to eight days, and open on the first of nine
        due.is("8, 2", new SevenRounds().water(8, 2, 1, 0), 0);
        water(9, 2, 90, 1, 1);
        due.is("9, 3", new SevenRounds().water(9, 3, 1, 0), 0);
    }

    private static void waterPromise() {
        due.promises(25, "WATER: the mean (what = 0), whether they open (1: 1, 0, be part 0 or 1). OUTSIDE.");
        SevenRounds x = new SevenRounds();
        due.is("opens, part 0", x.water(9, 10, 1, 0), 0);
        due.is("opens, part 1", x.water(9, 10, 1, 1), 0);
        due.is("opens, part -1", x.water(9, 10, 1, -1), LOST + OUTSIDE);
        due.is("opens, part 2", x.water(9, 10, 1, 2), LOST + OUTSIDE);
        due.is("the mean, part -1", x.water(9, 10, 0, -1), LOST + OUTSIDE);
        due.is("the mean, part 2", x.water(9, 10, 0, 2), LOST + OUTSIDE);
        due.is("what -1", x.water(9, 10, -1, 0), LOST + OUTSIDE);
        due.is("what 2", x.water(9, 10, 2, 0), LOST + OUTSIDE);
        due.is("LOST and OUTSIDE", LOST + OUTSIDE, -1000000000000000002L);
    }

    private static void lotsOfAny() {
        due.says("LOTS: one of a tribes of b houses of c men each (1 to 20 all) took it");
        int[] want = {0, 1, 2, 2, 3, 3, 3, 3, 4, 4, 4, 4, 4, 4, 4, 4, 5, 5, 5, 5};
        SevenRounds x = new SevenRounds();
        for (int n = 1; n <= 20; n++) {
            due.is(n + " tribes", x.lots(n, 1, 1, 0), want[n - 1]);
            due.is(n + " houses", x.lots(1, n, 1, 0), want[n - 1]);
            due.is(n + " men", x.lots(1, 1, n, 0), want[n - 1]);
        }
        due.is("0 tribes", x.lots(0, 1, 1, 0), OUTSIDE);
        due.is("0 houses", x.lots(1, 0, 1, 0), OUTSIDE);
        due.is("0 men", x.lots(1, 1, 0, 0), OUTSIDE);
        due.is("21 tribes", x.lots(21, 1, 1, 0), OUTSIDE);
        due.is("21 houses", x.lots(1, 21, 1, 0), OUTSIDE);
        due.is("21 men", x.lots(1, 1, 21, 0), OUTSIDE);
        due.is("8000", x.lots(20, 20, 20, 0), 13);
        due.is("4096", x.lots(16, 16, 16, 0), 12);
        due.is("4352", x.lots(16, 16, 17, 0), 13);
        due.is("2048", x.lots(16, 16, 8, 0), 11);
        due.is("2304", x.lots(16, 16, 9, 0), 12);
    }

    private static void inTheWorstCase() {
        due.says("a lot tells of any set of men whether he is of it: the fewest by which it is sure who, in the worst case");
        for (int a = 1; a <= 20; a++) {
            for (int b = 1; b <= 20; b++) {
                for (int c = 1; c <= 20; c++) {
                    int men = a * b * c;
                    int lots = new SevenRounds().lots(a, b, c, 0);
                    due.holds(lots + " tell " + men + " apart", 1 << lots >= men);
                    due.holds("one fewer than " + lots + " do not for " + men, lots == 0 || 1 << lots - 1 < men);
                }
            }
        }
    }

    private static void lotsInTurn() {
        due.says("so, too, if first the tribe is found by lots of tribes alone, then the house, then the man.");
        SevenRounds x = new SevenRounds();
        due.is("one man", x.lots(1, 1, 1, 1), 0);
        due.is("16 by 16 by 16", x.lots(16, 16, 16, 1), 12);
        due.is("17 by 16 by 16", x.lots(17, 16, 16, 1), 13);
        due.is("17 by 17 by 17", x.lots(17, 17, 17, 1), 15);
        due.is("20 by 20 by 20", x.lots(20, 20, 20, 1), 15);
        due.is("3 by 3 by 3", x.lots(3, 3, 3, 1), 6);
        due.is("3 by 3 by 3, of any men", x.lots(3, 3, 3, 0), 5);
        due.is("2 by 3 by 5", x.lots(2, 3, 5, 1), 6);
        due.is("2 by 3 by 5, of any men", x.lots(2, 3, 5, 0), 5);
    }

    private static void lotsPromise() {
        due.promises(26, "LOTS: of any men (what = 0), of tribes, then houses, then men (1). OUTSIDE.");
        SevenRounds x = new SevenRounds();
        due.is("of any", x.lots(5, 5, 5, 0), 7);
        due.is("in turn", x.lots(5, 5, 5, 1), 9);
        due.is("what -1", x.lots(5, 5, 5, -1), OUTSIDE);
        due.is("what 2", x.lots(5, 5, 5, 2), OUTSIDE);
        due.is("a 0, in turn", x.lots(0, 5, 5, 1), OUTSIDE);
        due.is("b 21, in turn", x.lots(5, 21, 5, 1), OUTSIDE);
        due.is("c -1, in turn", x.lots(5, 5, -1, 1), OUTSIDE);
    }

    private static void days(SevenRounds x, int seed, int m, int down, int held, int round) {
        due.is("day(" + seed + ", " + m + ", 0)", x.day(seed, m, 0), down);
        due.is("day(" + seed + ", " + m + ", 1)", x.day(seed, m, 1), held);
        due.is("day(" + seed + ", " + m + ", 2)", x.day(seed, m, 2), round);
    }

    private static void daySeeds() {
        due.says("A DAY by a seed (0 to 9999)");
        // 0 draws 74, which is 2 by 8: silence; 9999 draws 29092, which is 4 by 8: horns of 3636 by 10
        days(Sentences.evenWall(2, 6), 0, 1, 0, 1, 1);
        days(Sentences.evenWall(2, 6), 9999, 1, 12, 0, 1);
        days(Sentences.evenWall(2, 5), 9999, 1, 0, 0, 1);
        due.is("-1", new SevenRounds().day(-1, 1, 0), OUTSIDE);
        due.is("10000", new SevenRounds().day(10000, 1, 0), OUTSIDE);
    }

    private static void dayActs() {
        due.says("of m ACTS (1 to 99), from all as it is");
        SevenRounds x = new SevenRounds();
        due.is("0", x.day(0, 0, 0), OUTSIDE);
        due.is("1", x.day(0, 1, 2), 1);
        due.is("99", x.day(77, 99, 2), 77);
        due.is("100", x.day(77, 100, 2), OUTSIDE);
        x.set(0, 40);
        x.set(2, 50);
        days(x, 0, 1, 0, 41, 51);
        x.part(3, 0, 0);
        days(x, 0, 1, 1, 41, 51);
    }

    /** What a day does, reckoned by the pad: the same acts, one by one, as far as they can be. */
    private static int[] dayByThePad(SevenRounds x, int seed, int m) {
        long drawn = seed;
        for (int i = 0; i < m; i++) {
            drawn = (75 * drawn + 74) % 65537;
            int kind = (int) (drawn % 8);
            String act = kind <= 3 ? "." : kind <= 5 ? "h" + drawn / 8 % 10 : kind == 6 ? "!" : "n";
            // an act that can not be is not done, and is wiped ahead of the next
            Sentences.write(x, act).done();
        }
        return new int[] {Integer.bitCount(x.down()), x.told(2), x.told(1)};
    }

    private static SevenRounds dayWall(int seed) {
        SevenRounds x = new SevenRounds();
        for (int part = 0; part < 12; part++) {
            x.part(part, (seed + 7 * part) % 23, (seed + part) % 10);
        }
        x.thread(seed % 12, true);
        x.set(0, seed % 100);
        x.set(1, seed % 13);
        x.set(2, seed % 100);
        return x;
    }

    private static void dayDraws() {
        due.says("x becomes (75 x and 74) left over by 65537; by x left over by 8: 0 to 3 a round in silence, 4, 5 a round"
                + " with horns of TONE x by 8 (cut) left over by 10, 6 a shout, 7 a night");
        for (int seed = 0; seed <= 9999; seed += 101) {
            for (int m : new int[] {1, 2, 50, 99}) {
                int[] want = dayByThePad(dayWall(seed), seed, m);
                days(dayWall(seed), seed, m, want[0], want[1], want[2]);
            }
        }
    }

    /** The first seed whose first draw is so by 8. */
    private static int seedOf(int kind) {
        int seed = 0;
        while ((75 * seed + 74) % 65537 % 8 != kind) {
            seed++;
        }
        return seed;
    }

    private static void dayIfItCanBe() {
        due.says("each if that can be: how many PARTS are DOWN; HELD; the round.");
        for (int kind = 0; kind < 6; kind++) {
            SevenRounds x = new SevenRounds();
            x.set(0, 5);
            int held = kind < 4 ? 6 : 5;
            x.set(2, 98);
            days(x, seedOf(kind), 1, 0, held, 99);
            x.set(2, 99);
            days(x, seedOf(kind), 1, 0, 5, 99);
            x.set(0, 99);
            x.set(2, 0);
            days(x, seedOf(kind), 1, 0, 99, 1);
        }
        SevenRounds x = Sentences.evenWall(1, 0);
        days(x, seedOf(6), 1, 0, 0, 0);
        x.set(0, 1);
        days(x, seedOf(6), 1, 12, 0, 0);
        x.set(2, 99);
        days(x, seedOf(6), 1, 12, 0, 99);
        x.thread(0, true);
        days(x, seedOf(6), 1, 11, 0, 99);
        days(x, seedOf(7), 1, 0, 1, 99);
        x.set(1, 12);
        days(x, seedOf(7), 1, 0, 1, 99);
    }

    private static void dayIsNotDone() {
        due.says("Nothing is DONE in fact.");
        for (int seed : new int[] {0, 3, 77, 9999}) {
            SevenRounds x = Sentences.write(dayWall(seed), "!h");
            for (int what = 0; what < 3; what++) {
                x.day(seed, 99, what);
            }
            long[] want = Print.of(Sentences.write(dayWall(seed), "!h"));
            due.holds("all is as before the day " + seed, Arrays.equals(want, Print.of(x)));
        }
    }

    private static void dayPromise() {
        due.promises(27, "A DAY: DOWN (what = 0), HELD (1), the round (2). OUTSIDE.");
        SevenRounds x = new SevenRounds();
        days(x, 77, 99, 12, 5, 77);
        due.is("what -1", x.day(77, 99, -1), OUTSIDE);
        due.is("what 3", x.day(77, 99, 3), OUTSIDE);
        due.is("m 0", x.day(77, 0, 0), OUTSIDE);
        due.is("m 100", x.day(77, 100, 0), OUTSIDE);
        due.is("seed 10000", x.day(10000, 99, 0), OUTSIDE);
        Sentences.write(x, "x");
        days(x, 77, 99, 12, 5, 77);
    }

    private static void imagePromise() {
        due.promises(28, "All but the PAD is kept in an IMAGE (0, 1): 1. OUTSIDE.");
        SevenRounds x = new SevenRounds();
        due.is("-1", x.image(-1), OUTSIDE);
        due.is("2", x.image(2), OUTSIDE);
        due.is("none is kept by these: 0", x.restore(0), STATE);
        due.is("none is kept by these: 1", x.restore(1), STATE);
        due.is("1", x.image(1), 1);
        due.is("0 is not kept by 1", x.restore(0), STATE);
        due.is("0", x.image(0), 1);
        x.set(0, 7);
        due.is("0 once more", x.image(0), 1);
        x.set(0, 8);
        x.restore(0);
        due.is("the later one is kept", x.told(2), 7);
        x.restore(1);
        due.is("1 is as before", x.told(2), 0);
    }

    private static void restorePromise() {
        due.promises(29, "It is as it was when it was kept: 1. OUTSIDE; STATE: it was not.");
        SevenRounds x = new SevenRounds();
        due.is("-1 ahead of state", x.restore(-1), OUTSIDE);
        due.is("2 ahead of state", x.restore(2), OUTSIDE);
        due.is("0 is not kept", x.restore(0), STATE);
        due.is("1 is not kept", x.restore(1), STATE);
        x.part(0, 0, 9);
        x.image(0);
        x.part(0, 99, 0);
        due.is("restore(0)", x.restore(0), 1);
        due.is("firm as it was", x.told(10), 0);
        due.is("tone as it was", x.told(30), 9);
        x.part(0, 50, 5);
        due.is("once more", x.restore(0), 1);
        due.is("firm as it was", x.told(10), 0);
        due.is("1 is not kept yet", x.restore(1), STATE);
        x.image(1);
        x.part(0, 1, 1);
        x.image(0);
        due.is("restore(1)", x.restore(1), 1);
        due.is("firm as 1 has it", x.told(10), 0);
        due.is("restore(0) is not gone by that", x.restore(0), 1);
        due.is("firm as 0 has it", x.told(10), 1);
    }

    private static void imagesKeepAll() {
        due.says("All but the PAD is kept in an IMAGE (0, 1)");
        for (int n = 0; n < 2; n++) {
            SevenRounds x = dayWall(77);
            x.seen(5, 1);
            x.man(7, 3);
            Sentences.write(x, "..");
            x.image(n);
            SevenRounds same = dayWall(77);
            same.seen(5, 1);
            same.man(7, 3);
            Sentences.write(same, ".!h5");
            same.image(n);
            Sentences.write(x, ".!h5");
            for (int part = 0; part < 12; part++) {
                x.part(part, 3, 3);
                x.thread(part, part % 2 == 0);
            }
            for (int man = 0; man < 8; man++) {
                x.man(man, 4);
            }
            x.set(0, 1);
            x.set(1, 1);
            x.set(2, 1);
            x.forget();
            x.seen(1, 0);
            x.seen(2, 0);
            due.is("restore(" + n + ")", x.restore(n), 1);
            due.is("the pad is not kept", x.told(0), 4);
            due.holds("all else is as it was", Arrays.equals(Print.of(same), Print.of(x)));
        }
        SevenRounds x = new SevenRounds();
        x.image(0);
        Sentences.write(x, ".....");
        x.done();
        due.is("done, then restored", x.restore(0), 1);
        due.is("round", x.told(1), 0);
        due.is("the pad stays empty", x.told(0), 0);
        for (int i = 0; i < 8; i++) {
            x.seen(0, 2);
        }
        x.image(1);
        x.forget();
        x.restore(1);
        due.is("eight sights are full again", x.seen(0, 2), Sentences.FULL);
        x.restore(0);
        due.is("and there is room again", x.seen(9, 2), 1);
        due.is("of which the new one counts", x.tones(), 512);
    }

    private static void toldPromise() {
        due.promises(30, "0 signs, 1 the round, 2 HELD, 3 MASONS, 4 THREADS (bits), 5 SIGHTS,"
                + " 10 and a PART: how FIRM, 30 and a PART: its TONE, 50 and a MAN: how many he NEEDS. OUTSIDE.");
        SevenRounds x = Sentences.written("..!");
        x.set(2, 21);
        x.set(0, 22);
        x.set(1, 3);
        x.thread(11, true);
        x.seen(0, 0);
        int[] want = {3, 21, 22, 3, 2048, 1};
        for (int what = 0; what <= 5; what++) {
            due.is("told(" + what + ")", x.told(what), want[what]);
        }
        for (int part = 0; part < 12; part++) {
            x.part(part, 40 + part, (part + 5) % 10);
        }
        for (int man = 0; man < 8; man++) {
            x.man(man, man + 1);
        }
        for (int part = 0; part < 12; part++) {
            due.is("told(10 and " + part + ")", x.told(10 + part), 40 + part);
            due.is("told(30 and " + part + ")", x.told(30 + part), (part + 5) % 10);
        }
        for (int man = 0; man < 8; man++) {
            due.is("told(50 and " + man + ")", x.told(50 + man), man + 1);
        }
    }

    private static void toldGaps() {
        due.promises(30, "50 and a MAN: how many he NEEDS. OUTSIDE.");
        SevenRounds x = new SevenRounds();
        for (int what = -100; what <= 200; what++) {
            boolean is = what >= 0 && what <= 5 || what >= 10 && what <= 21 || what >= 30 && what <= 41
                    || what >= 50 && what <= 57;
            due.holds("told(" + what + ")", is == (x.told(what) != OUTSIDE));
        }
        due.is("told(least)", x.told(Sentences.LOW), OUTSIDE);
        due.is("told(most)", x.told(Sentences.HIGH), OUTSIDE);
    }
}
