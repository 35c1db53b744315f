import java.io.IOException;

/** The edges that the document names for acts, for what comes of them, and for promises 9 to 14. */
public final class RoundsEdgesTest {
    private static final int NONE = Sentences.NONE, UNKNOWN = Sentences.UNKNOWN, OUTSIDE = Sentences.OUTSIDE;
    private static final int NO = Sentences.NO;

    private static Sentences due;

    public static void main(String[] args) throws IOException {
        due = new Sentences();
        textOfActs();
        silence();
        hornsByTones();
        hornsAtTheEnds();
        shout();
        nightByMasons();
        nightByFirmness();
        nightOfSeveral();
        firmAtLeast();
        threadAtLeast();
        leastReason();
        roundNinetyNine();
        nothingHeld();
        noMasons();
        judged();
        allIsSo();
        behindIsNotDone();
        fellFirst();
        judgePromise();
        donePromise();
        behindPromise();
        thenPromise();
        fellPromise();
        downPromise();
        due.end();
    }

    private static void judged(SevenRounds x, String rounds, int act, int why) {
        Sentences.write(x, rounds);
        due.is("judge(0) of " + rounds, x.judge(0), act);
        due.is("judge(1) of " + rounds, x.judge(1), why);
    }

    private static void firmBehind(SevenRounds x, String rounds, int... firm) {
        Sentences.write(x, rounds);
        for (int part = 0; part < firm.length; part++) {
            due.is("behind(" + part + ") of " + rounds, x.behind(part), firm[part]);
        }
    }

    private static void textOfActs() {
        due.says("ROUNDS are a text on a PAD (60 SIGNS at most, codes 33 to 126) of ACTS");
        String[] acts = {".", "h0", "h9", "!", "n"};
        for (int i = 0; i < acts.length * acts.length * acts.length; i++) {
            // silence ahead of each, so that a shout can be wherever it stands
            String rounds = "." + acts[i / 25] + "." + acts[i / 5 % 5] + "." + acts[i % 5];
            SevenRounds x = new SevenRounds();
            x.set(1, 1);
            Sentences.write(x, rounds);
            due.is("fault() of " + rounds, x.fault(), NONE);
            due.is("judge(0) of " + rounds, x.judge(0), NONE);
            due.is("done() of " + rounds, x.done(), 6);
        }
        due.is("a text of no acts", new SevenRounds().done(), 0);
    }

    private static void silence() {
        due.says(". (a round in silence: HELD is 1 more, 99 at most)");
        SevenRounds x = Sentences.written(".");
        for (int held : new int[] {0, 1, 97, 98, 99}) {
            x.set(0, held);
            due.is("held behind " + held, x.then(1), Math.min(99, held + 1));
            due.is("it is a round", x.then(2), 1);
            due.is("no part is less firm", x.behind(0), 10);
        }
        Sentences.write(x, "...");
        due.is("three behind 99", x.then(1), 99);
        due.is("are three rounds", x.then(2), 3);
        due.is("done", x.done(), 3);
        due.is("held in fact", x.told(2), 99);
    }

    private static void hornsByTones() {
        due.says("each PART of that TONE is 2 less FIRM, each one of a TONE 1 below or above it 1 less");
        for (int tone = 0; tone < 10; tone++) {
            SevenRounds x = Sentences.evenWall(50, tone);
            for (int horn = 0; horn < 10; horn++) {
                int less = horn == tone ? 2 : horn == tone - 1 || horn == tone + 1 ? 1 : 0;
                Sentences.write(x, "h" + horn);
                due.is("part 0 of " + tone + " by " + horn, x.behind(0), 50 - less);
                due.is("part 11 of " + tone + " by " + horn, x.behind(11), 50 - less);
                due.is("a round", x.then(2), 1);
                due.is("nothing is held by horns", x.then(1), 0);
            }
        }
    }

    private static void hornsAtTheEnds() {
        due.says("behind 9 there is none)");
        due.is("9 is not below 0", Sentences.write(Sentences.evenWall(5, 0), "h9").behind(3), 5);
        due.is("0 is not above 9", Sentences.write(Sentences.evenWall(5, 9), "h0").behind(3), 5);
        due.is("8 is below 9", Sentences.write(Sentences.evenWall(5, 9), "h8").behind(3), 4);
        due.is("9 is above 8", Sentences.write(Sentences.evenWall(5, 8), "h9").behind(3), 4);
        due.is("1 is above 0", Sentences.write(Sentences.evenWall(5, 0), "h1").behind(3), 4);
        due.is("0 is below 1", Sentences.write(Sentences.evenWall(5, 1), "h0").behind(3), 4);
    }

    private static void shout() {
        due.says("! (a shout: each PART is as much less FIRM as HELD is, HELD is 0 then; it is no round)");
        SevenRounds x = Sentences.wall(5, 0, 1, 49, 50, 51, 99);
        x.set(0, 50);
        x.set(2, 7);
        firmBehind(x, "!", 0, 0, 0, 0, 1, 49);
        due.is("held is 0 then", x.then(1), 0);
        due.is("no round", x.then(2), 7);
        x.set(0, 1);
        firmBehind(x, "!", 0, 0, 48, 49, 50, 98);
        x.set(0, 99);
        firmBehind(x, "!", 0, 0, 0, 0, 0, 0);
        x.set(0, 98);
        firmBehind(x, "!", 0, 0, 0, 0, 0, 1);
        judged(x, "!!", 1, 2);
        judged(x, "!.!", NONE, NONE);
    }

    private static void nightByMasons() {
        due.says("n (a night: as many PARTS as there are MASONS");
        for (int masons = 1; masons <= 12; masons++) {
            SevenRounds x = new SevenRounds();
            x.set(1, masons);
            Sentences.write(x, "n");
            for (int part = 0; part < 12; part++) {
                due.is(masons + " masons, part " + part, x.behind(part), part < masons ? 11 : 10);
            }
            due.is("no round", x.then(2), 0);
            due.is("nothing is held by it", x.then(1), 0);
        }
        SevenRounds x = new SevenRounds();
        x.set(1, 12);
        x.set(2, 99);
        judged(x, "nnn", NONE, NONE);
        due.is("in three nights", x.behind(11), 13);
    }

    private static void nightByFirmness() {
        due.says("of those that are not DOWN and FIRM 98 at most");
        SevenRounds x = Sentences.wall(0, 0, 1, 98, 99, 97, 0, 99, 98, 99, 99, 99, 99);
        x.set(1, 12);
        firmBehind(x, "n", 0, 2, 99, 99, 98, 0, 99, 99, 99, 99, 99, 99);
        firmBehind(x, "nn", 0, 3, 99, 99, 99, 0, 99, 99, 99, 99, 99, 99);
        x.set(1, 1);
        firmBehind(x, "n", 0, 2, 98, 99, 97, 0, 99, 98, 99, 99, 99, 99);
        x.set(1, 3);
        firmBehind(x, "n", 0, 2, 99, 99, 98, 0, 99, 98, 99, 99, 99, 99);
        for (int firm : new int[] {0, 99}) {
            SevenRounds y = Sentences.evenWall(firm, 0);
            y.set(1, 12);
            judged(y, "n", NONE, NONE);
            due.is("a night with nothing to mend", y.behind(0), firm);
            due.is("is an act", y.done(), 1);
        }
    }

    private static void nightOfSeveral() {
        due.says("the least FIRM ones, of several the least, are 1 more FIRM)");
        SevenRounds x = Sentences.wall(0, 7, 6, 5, 6, 5, 7, 7, 7, 7, 7, 7, 5);
        x.set(1, 1);
        firmBehind(x, "n", 7, 6, 6, 6, 5, 7, 7, 7, 7, 7, 7, 5);
        x.set(1, 2);
        firmBehind(x, "n", 7, 6, 6, 6, 6, 7, 7, 7, 7, 7, 7, 5);
        x.set(1, 3);
        firmBehind(x, "n", 7, 6, 6, 6, 6, 7, 7, 7, 7, 7, 7, 6);
        x.set(1, 4);
        firmBehind(x, "n", 7, 7, 6, 6, 6, 7, 7, 7, 7, 7, 7, 6);
        x.set(1, 6);
        firmBehind(x, "n", 8, 7, 6, 7, 6, 7, 7, 7, 7, 7, 7, 6);
        x.thread(2, true);
        x.set(1, 1);
        firmBehind(x, "n", 7, 6, 6, 6, 5, 7, 7, 7, 7, 7, 7, 5);
        SevenRounds y = Sentences.wall(0, 99, 1, 99, 99, 99, 99, 99, 99, 99, 99, 99, 99);
        y.set(1, 2);
        firmBehind(y, "n", 99, 2);
    }

    private static void firmAtLeast() {
        due.says("FIRM is 0 at least");
        SevenRounds x = Sentences.wall(4, 0, 1, 2, 3);
        firmBehind(x, "h4", 0, 0, 0, 1);
        due.is("which are down", x.then(0), 7);
        firmBehind(x, "h4h4", 0, 0, 0, 0);
        firmBehind(x, "h3", 0, 0, 1, 2);
        x.set(0, 99);
        firmBehind(x, "!", 0, 0, 0, 0, 0, 0, 0, 0, 0, 0, 0, 0);
        due.is("which are down", x.then(0), 4095);
    }

    private static void threadAtLeast() {
        due.says("to a PART that has a THREAD, and is not DOWN, 1 at least is left.");
        SevenRounds x = Sentences.wall(4, 0, 1, 2, 3, 99);
        for (int part = 0; part < 5; part++) {
            x.thread(part, true);
        }
        firmBehind(x, "h4", 0, 1, 1, 1, 97);
        firmBehind(x, "h4h4h4", 0, 1, 1, 1, 93);
        firmBehind(x, "h5", 0, 1, 1, 2, 98);
        for (int held : new int[] {1, 2, 98, 99}) {
            x.set(0, held);
            firmBehind(x, "!", 0, 1, Math.max(1, 2 - held), Math.max(1, 3 - held), Math.max(1, 99 - held));
        }
        due.is("but that which is down stays down", x.then(0) & 31, 1);
        due.is("done", x.done(), 1);
        due.is("1 is left in fact", x.told(14), 1);
        x.thread(4, false);
        firmBehind(x, "h3", 0, 1, 1, 1, 0);
        x.thread(4, true);
        x.part(4, 0, 4);
        due.is("a thread hung on what is down", x.told(14), 0);
        due.is("raises nothing", x.down() & 31, 17);
    }

    private static void leastReason() {
        due.says("An ACT can not be for the least of these reasons:");
        SevenRounds x = new SevenRounds();
        x.set(2, 99);
        judged(x, ".", 0, 1);
        judged(x, "h5", 0, 1);
        judged(x, "!", 0, 2);
        judged(x, "n", 0, 3);
        x.set(2, 98);
        judged(x, ".", NONE, NONE);
        judged(x, "h5", NONE, NONE);
        judged(x, "!", 0, 2);
        judged(x, "n", 0, 3);
        x.set(0, 1);
        x.set(1, 1);
        x.set(2, 99);
        judged(x, ".", 0, 1);
        judged(x, "h5", 0, 1);
        judged(x, "!", NONE, NONE);
        judged(x, "n", NONE, NONE);
    }

    private static void roundNinetyNine() {
        due.says("1 it is round 99 (., h)");
        SevenRounds x = new SevenRounds();
        x.set(2, 98);
        judged(x, ".", NONE, NONE);
        due.is("to round 99", x.then(2), 99);
        judged(x, "h9", NONE, NONE);
        due.is("to round 99", x.then(2), 99);
        judged(x, "..", 1, 1);
        judged(x, ".h0", 1, 1);
        judged(x, "h0h0", 1, 1);
        judged(x, "h0.", 1, 1);
        x.set(2, 99);
        for (char digit = '0'; digit <= '9'; digit++) {
            judged(x, "h" + digit, 0, 1);
        }
        judged(x, ".", 0, 1);
        x.set(0, 1);
        x.set(1, 1);
        judged(x, "!", NONE, NONE);
        judged(x, "n", NONE, NONE);
        judged(x, "n!n.", 3, 1);
        x.set(2, 39);
        judged(x, ".".repeat(60), NONE, NONE);
        x.set(2, 40);
        judged(x, ".".repeat(60), 59, 1);
        x.set(2, 69);
        judged(x, "h5".repeat(30), NONE, NONE);
        x.set(2, 70);
        judged(x, "h5".repeat(30), 29, 1);
    }

    private static void nothingHeld() {
        due.says("2 nothing is HELD (!)");
        SevenRounds x = new SevenRounds();
        judged(x, "!", 0, 2);
        judged(x, ".!", NONE, NONE);
        judged(x, "h0!", 1, 2);
        judged(x, ".!!", 2, 2);
        judged(x, ".!.!", NONE, NONE);
        x.set(0, 1);
        judged(x, "!", NONE, NONE);
        judged(x, "!!", 1, 2);
        x.set(0, 99);
        judged(x, "!!", 1, 2);
        x.set(2, 99);
        x.set(0, 0);
        judged(x, "!.", 0, 2);
    }

    private static void noMasons() {
        due.says("3 there are no MASONS (n).");
        SevenRounds x = new SevenRounds();
        judged(x, "n", 0, 3);
        judged(x, ".n", 1, 3);
        x.set(1, 1);
        judged(x, "n".repeat(60), NONE, NONE);
        x.set(1, 12);
        judged(x, "n", NONE, NONE);
        x.set(1, 0);
        x.set(2, 99);
        judged(x, "n.!", 0, 3);
    }

    private static void judged() {
        due.says("JUDGED: of ROUNDS the first ACT (from 0 on) that can not be, and why.");
        SevenRounds x = new SevenRounds();
        judged(x, "", NONE, NONE);
        judged(x, "!n", 0, 2);
        judged(x, "n!", 0, 3);
        judged(x, "h1h2h3!", 3, 2);
        judged(x, "h1.h3n!", 3, 3);
        judged(x, ".".repeat(59) + "n", 59, 3);
        judged(x, "h0".repeat(29) + ".n", 30, 3);
        due.is("nothing is done", x.told(1), 0);
        judged(x, "!", 0, 2);
        judged(x, "", NONE, NONE);
        due.is("nothing of what was judged before is left", x.done(), 0);
    }

    private static void allIsSo() {
        due.says("DONE: all is so then.");
        SevenRounds x = Sentences.wall(3, 9, 2, 4, 1);
        x.set(1, 2);
        x.thread(3, true);
        x.seen(4, 1);
        x.man(2, 5);
        Sentences.write(x, "h3..!.n");
        due.is("acts", x.done(), 6);
        // behind h3 7, 0, 2, 1; behind the shout of two 5, 0, 0, 1; masons raise parts 3 and 0
        int[] want = {6, 0, 0, 2, 8, 8, 8, 8, 8, 8, 8, 8};
        for (int part = 0; part < 12; part++) {
            due.is("part " + part, x.told(10 + part), want[part]);
        }
        due.is("down", x.down(), 6);
        due.is("held", x.told(2), 1);
        due.is("round", x.told(1), 4);
        due.is("signs", x.told(0), 0);
        due.is("masons stay", x.told(3), 2);
        due.is("threads stay", x.told(4), 8);
        due.is("sights stay", x.told(5), 1);
        due.is("needs stay", x.told(52), 5);
        due.is("tones stay", x.told(30), 3);
    }

    private static void behindIsNotDone() {
        due.says("BEHIND, likewise, not being DONE: how FIRM a PART is; of all: which are DOWN (bits), HELD, the round.");
        SevenRounds x = Sentences.evenWall(1, 0);
        Sentences.write(x, "..!.");
        for (int turn = 0; turn < 2; turn++) {
            due.is("behind(0)", x.behind(0), 0);
            due.is("behind(11)", x.behind(11), 0);
            due.is("then(0)", x.then(0), 4095);
            due.is("then(1)", x.then(1), 1);
            due.is("then(2)", x.then(2), 3);
        }
        due.is("firm now", x.told(10), 1);
        due.is("down now", x.down(), 0);
        due.is("held now", x.told(2), 0);
        due.is("the round now", x.told(1), 0);
        due.is("the pad stays", x.told(0), 4);
    }

    private static void fell(SevenRounds x, String rounds, int act, int part) {
        Sentences.write(x, rounds);
        due.is("fell(0) of " + rounds, x.fell(0), act);
        due.is("fell(1) of " + rounds, x.fell(1), part);
    }

    private static void fellFirst() {
        due.says("FELL: the first ACT by which some PART is DOWN; the least such PART; NONE.");
        SevenRounds x = Sentences.wall(0, 9, 9, 9, 9, 9, 9, 9, 9, 9, 9, 9, 1);
        fell(x, "", NONE, NONE);
        fell(x, "..", NONE, NONE);
        fell(x, "h0", 0, 11);
        fell(x, "h2", NONE, NONE);
        fell(x, ".!", 1, 11);
        fell(x, "", NONE, NONE);
        fell(x, ".".repeat(59) + "!", 59, 0);
        fell(x, "h2".repeat(29) + "h1", 29, 11);
        x.part(0, 0, 0);
        fell(x, "", NONE, NONE);
        fell(x, "h2", NONE, NONE);
        fell(x, ".!", 1, 11);
        fell(x, ".........!", 9, 1);
        fell(x, ".!........!", 1, 11);
        fell(x, ".!........!........!", 1, 11);
        x.part(10, 1, 9);
        fell(x, "h0h9", 0, 11);
        fell(x, "h9h0", 0, 10);
        fell(x, ".!", 1, 10);
        x.thread(10, true);
        fell(x, ".!", 1, 11);
        x.thread(11, true);
        fell(x, ".!", NONE, NONE);
        fell(Sentences.evenWall(0, 0), ".!h0", NONE, NONE);
    }

    private static void judgePromise() {
        due.promises(9, "JUDGED: the ACT (what = 0), why (1); NONE. OUTSIDE; NO: there is a FAULT.");
        SevenRounds x = new SevenRounds();
        judged(x, "", NONE, NONE);
        judged(x, ".n", 1, 3);
        due.is("judge(-1)", x.judge(-1), OUTSIDE);
        due.is("judge(2)", x.judge(2), OUTSIDE);
        judged(x, "h", NO, NO);
        judged(x, "!h", NO, NO);
        judged(x, "!0", NO, NO);
        due.is("outside ahead of no", x.judge(2), OUTSIDE);
        due.is("the pad stays", x.told(0), 2);
        judged(x, ".".repeat(59) + "h", NO, NO);
    }

    private static void donePromise() {
        due.promises(10, "ROUNDS on the PAD are DONE (it is empty then): ACTS. NO: there is a FAULT, or an ACT that can not be.");
        SevenRounds x = new SevenRounds();
        due.is("no rounds", x.done(), 0);
        due.is("thirty of sixty signs", Sentences.write(x, "h9".repeat(30)).done(), 30);
        due.is("the pad is empty", x.told(0), 0);
        due.is("round 30", x.told(1), 30);
        due.is("none are left to do", x.done(), 0);
        due.is("round 30 yet", x.told(1), 30);
        due.is("sixty of sixty signs", Sentences.write(x, ".".repeat(60)).done(), 60);
        due.is("round 90", x.told(1), 90);
        due.is("nine more", Sentences.write(x, ".........").done(), 9);
        due.is("round 99", x.told(1), 99);
        due.is("no more", Sentences.write(x, ".").done(), NO);
        due.is("the pad stays", x.told(0), 1);
        due.is("a fault", Sentences.write(x, "!h").done(), NO);
        due.is("the pad stays", x.told(0), 2);
        due.is("the second can not be: the first is not done", Sentences.write(x, "!!").done(), NO);
        due.is("held stays", x.told(2), 69);
        due.is("firm stays", x.told(10), 10);
        due.is("a shout in round 99", Sentences.write(x, "!").done(), 1);
        due.is("all is down", x.down(), 4095);
    }

    private static void behindPromise() {
        due.promises(11, "BEHIND: how FIRM. UNKNOWN; NO, as of done().");
        SevenRounds x = Sentences.wall(0, 7, 10, 10, 10, 10, 10, 10, 10, 10, 10, 10, 99);
        due.is("behind nothing: 0", x.behind(0), 7);
        due.is("behind nothing: 11", x.behind(11), 99);
        due.is("-1", x.behind(-1), UNKNOWN);
        due.is("12", x.behind(12), UNKNOWN);
        for (String rounds : new String[] {"h", "z", "!", "n", ".!!"}) {
            Sentences.write(x, rounds);
            due.is("behind(0) of " + rounds, x.behind(0), NO);
            due.is("behind(11) of " + rounds, x.behind(11), NO);
            due.is("unknown ahead of no", x.behind(12), UNKNOWN);
        }
        x.set(2, 99);
        due.is("behind(0) in round 99", Sentences.write(x, ".").behind(0), NO);
        due.is("behind(0) of nothing again", Sentences.write(x, "").behind(0), 7);
    }

    private static void thenPromise() {
        due.promises(12, "BEHIND: DOWN (what = 0), HELD (1), the round (2). OUTSIDE; NO, likewise.");
        SevenRounds x = new SevenRounds();
        x.part(0, 0, 0);
        x.part(11, 0, 0);
        x.set(0, 99);
        x.set(2, 99);
        due.is("behind nothing: down", x.then(0), 2049);
        due.is("behind nothing: held", x.then(1), 99);
        due.is("behind nothing: round", x.then(2), 99);
        due.is("-1", x.then(-1), OUTSIDE);
        due.is("3", x.then(3), OUTSIDE);
        for (String rounds : new String[] {"h", "z", ".", "h0", "n", "!!"}) {
            Sentences.write(x, rounds);
            for (int what = 0; what < 3; what++) {
                due.is("then(" + what + ") of " + rounds, x.then(what), NO);
            }
            due.is("outside ahead of no", x.then(3), OUTSIDE);
        }
        due.is("behind nothing again", Sentences.write(x, "").then(0), 2049);
    }

    private static void fellPromise() {
        due.promises(13, "FELL: the ACT (what = 0), the PART (1); NONE. OUTSIDE; NO, likewise.");
        SevenRounds x = Sentences.evenWall(1, 0);
        fell(x, "", NONE, NONE);
        fell(x, "h0", 0, 0);
        due.is("-1", x.fell(-1), OUTSIDE);
        due.is("2", x.fell(2), OUTSIDE);
        for (String rounds : new String[] {"h", "h0z", "h0!", "n", "h0n"}) {
            fell(x, rounds, NO, NO);
            due.is("outside ahead of no", x.fell(2), OUTSIDE);
        }
    }

    private static void downPromise() {
        due.promises(14, "Which are DOWN now, as bits.");
        SevenRounds x = new SevenRounds();
        due.is("none", x.down(), 0);
        for (int part = 0; part < 12; part++) {
            x.part(part, 0, 0);
            due.is("up to " + part, x.down(), (2L << part) - 1);
        }
        x.part(0, 1, 0);
        due.is("all but 0", x.down(), 4094);
        x.part(11, 1, 0);
        due.is("all but 0 and 11", x.down(), 2046);
        x.set(0, 99);
        Sentences.write(x, "!");
        due.is("now, not behind the pad", x.down(), 2046);
        Sentences.write(x, "x");
        due.is("whatever the pad", x.down(), 2046);
    }
}
