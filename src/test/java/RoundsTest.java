/** Promises 9 to 14: judge, done, behind, then, fell, down. */
public final class RoundsTest {
    private static final Due due = new Due();
    private static final int LOW = Integer.MIN_VALUE, HIGH = Integer.MAX_VALUE;

    public static void main(String[] args) {
        judgeReasons();
        silence();
        horns();
        shout();
        night();
        fell();
        doneInFact();
        wrongNumbers();
        due.end();
    }

    private static void judged(SevenRounds x, String rounds, int act, int why) {
        Due.write(x, rounds);
        due.is("judge(0) of " + rounds, x.judge(0), act);
        due.is("judge(1) of " + rounds, x.judge(1), why);
        if (act != SevenRounds.NONE) {
            due.is("done", x.done(), -5);
            due.is("behind", x.behind(0), -5);
            due.is("then", x.then(2), -5);
            due.is("fell", x.fell(1), -5);
            due.is("the pad stays", x.told(0), rounds.length());
        }
    }

    private static void judgeReasons() {
        SevenRounds x = new SevenRounds();
        judged(x, "", -6, -6);
        judged(x, ".", -6, -6);
        judged(x, "!", 0, 2);
        judged(x, "n", 0, 3);
        judged(x, ".!!", 2, 2);
        judged(x, "h5h5!", 2, 2);
        judged(x, "h5.h5!n", 4, 3);
        x.set(1, 1);
        judged(x, "n", -6, -6);
        x.set(2, 99);
        judged(x, ".", 0, 1);
        judged(x, "h0", 0, 1);
        judged(x, "nn", -6, -6);
        judged(x, "n!.", 1, 2);
        x.set(0, 1);
        judged(x, "!n", -6, -6);
        judged(x, "!n.", 2, 1);
        x.set(2, 97);
        judged(x, ".h5", -6, -6);
        judged(x, "h5.!h5", 3, 1);
        x.set(2, 98);
        judged(x, ".", -6, -6);
        judged(x, "..", 1, 1);
        due.is("judging changes nothing: round", x.told(1), 98);
        due.is("judging changes nothing: held", x.told(2), 1);
    }

    private static void silence() {
        SevenRounds x = Due.write(new SevenRounds(), "...");
        due.is("held", x.then(1), 3);
        due.is("round", x.then(2), 3);
        due.is("firm", x.behind(4), 10);
        x.set(0, 98);
        due.is("held 99 at most", x.then(1), 99);
        due.is("round goes on", x.then(2), 3);
    }

    private static void horns() {
        SevenRounds x = new SevenRounds();
        for (int i = 0; i < 10; i++) {
            x.part(i, 5, i);
        }
        x.set(0, 7);
        for (int tone = 0; tone < 10; tone++) {
            Due.write(x, "h" + tone);
            for (int i = 0; i < 10; i++) {
                int apart = Math.abs(tone - i);
                int want = apart == 0 ? 3 : apart == 1 ? 4 : 5;
                due.is("h" + tone + " on a part of tone " + i, x.behind(i), want);
            }
            due.is("horns are a round", x.then(2), 1);
            due.is("horns let what is held", x.then(1), 7);
        }
        x.part(0, 1, 4);
        x.part(1, 1, 4);
        x.thread(1, true);
        Due.write(x, "h4");
        due.is("0 at least", x.behind(0), 0);
        due.is("1 at least with a thread", x.behind(1), 1);
        x.part(1, 0, 4);
        due.is("down stays down with a thread", x.behind(1), 0);
    }

    private static void shout() {
        SevenRounds x = new SevenRounds();
        x.set(0, 9);
        x.part(1, 9, 0);
        x.part(2, 99, 0);
        x.part(3, 5, 0);
        x.part(4, 9, 0);
        x.part(5, 0, 0);
        x.thread(4, true);
        x.thread(5, true);
        Due.write(x, "!");
        due.is("10 less 9", x.behind(0), 1);
        due.is("9 less 9", x.behind(1), 0);
        due.is("99 less 9", x.behind(2), 90);
        due.is("5 less 9", x.behind(3), 0);
        due.is("by a thread", x.behind(4), 1);
        due.is("a thread on what is down", x.behind(5), 0);
        due.is("which are down", x.then(0), 2 + 8 + 32);
        due.is("held", x.then(1), 0);
        due.is("no round", x.then(2), 0);
        due.is("not done", x.told(2), 9);
        due.is("down now", x.down(), 32);
    }

    private static void night() {
        SevenRounds x = new SevenRounds();
        x.set(1, 3);
        x.set(0, 4);
        x.part(2, 4, 0);
        x.part(3, 5, 0);
        x.part(4, 4, 0);
        x.part(5, 5, 0);
        x.part(6, 0, 0);
        Due.write(x, "n");
        int[] want = {10, 10, 5, 6, 5, 5, 0, 10, 10, 10, 10, 10};
        for (int i = 0; i < 12; i++) {
            due.is("night, part " + i, x.behind(i), want[i]);
        }
        due.is("no round", x.then(2), 0);
        due.is("held stays", x.then(1), 4);
        Due.write(x, "nn");
        due.is("second night 2", x.behind(2), 6);
        due.is("second night 3", x.behind(3), 6);
        due.is("second night 4", x.behind(4), 6);
        due.is("second night 5", x.behind(5), 6);
        for (int i = 0; i < 12; i++) {
            x.part(i, i < 2 ? 98 : 99, 0);
        }
        x.part(7, 0, 0);
        Due.write(x, "nn");
        due.is("98 is mended", x.behind(0), 99);
        due.is("98 is mended", x.behind(1), 99);
        due.is("99 is not", x.behind(2), 99);
        due.is("what is down is not", x.behind(7), 0);
    }

    private static void fell(SevenRounds x, String rounds, int act, int part) {
        Due.write(x, rounds);
        due.is("fell(0) of " + rounds, x.fell(0), act);
        due.is("fell(1) of " + rounds, x.fell(1), part);
    }

    private static void fell() {
        SevenRounds x = new SevenRounds();
        fell(x, "", -6, -6);
        fell(x, ".........!", -6, -6);
        fell(x, "..........!", 10, 0);
        x.part(7, 3, 5);
        x.part(9, 1, 8);
        x.part(2, 0, 5);
        fell(x, "h5h5", 1, 7);
        fell(x, "h5h8h5", 1, 9);
        fell(x, ".h6h6.h6.", 4, 7);
        fell(x, "h7.h6h6!", 0, 9);
        fell(x, "...!", 3, 7);
        x.thread(7, true);
        fell(x, "...!", 3, 9);
        x.part(2, 0, 0);
        x.part(9, 0, 0);
        fell(x, "...!", -6, -6);
        fell(x, "", -6, -6);
    }

    private static void doneInFact() {
        SevenRounds x = new SevenRounds();
        x.part(3, 2, 4);
        x.set(1, 1);
        due.is("done of nothing", x.done(), 0);
        Due.write(x, "h4.!n.");
        due.is("done", x.done(), 5);
        due.is("the pad is empty", x.told(0), 0);
        due.is("round", x.told(1), 3);
        due.is("held", x.told(2), 1);
        due.is("masons", x.told(3), 1);
        due.is("down", x.down(), 8);
        due.is("firm 0: shouted at, then mended", x.told(10), 10);
        due.is("firm 1: shouted at", x.told(11), 9);
        due.is("tones stay", x.told(33), 4);
        Due.write(x, ".!!");
        due.is("an act that can not be", x.done(), -5);
        due.is("nothing is done", x.told(1), 3);
        due.is("nothing is done", x.told(2), 1);
        Due.write(x, "");
        due.is("behind nothing", x.behind(3), 0);
        due.is("then(0) behind nothing", x.then(0), 8);
        due.is("then(1) behind nothing", x.then(1), 1);
        due.is("then(2) behind nothing", x.then(2), 3);
        Due.write(x, ".".repeat(60));
        due.is("done sixty", x.done(), 60);
        due.is("held", x.told(2), 61);
        due.is("round", x.told(1), 63);
    }

    private static void wrongNumbers() {
        SevenRounds x = new SevenRounds();
        for (int bad : new int[] {-1, 2, LOW, HIGH}) {
            due.is("judge outside", x.judge(bad), -2);
            due.is("fell outside", x.fell(bad), -2);
        }
        for (int bad : new int[] {-1, 3, LOW, HIGH}) {
            due.is("then outside", x.then(bad), -2);
        }
        for (int bad : new int[] {-1, 12, LOW, HIGH}) {
            due.is("behind unknown", x.behind(bad), -1);
        }
    }
}
