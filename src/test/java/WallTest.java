/** Promises 1 to 8: a new object, part, thread, set, man, say, wipe, fault. */
public final class WallTest {
    private static final Due due = new Due();
    private static final int LOW = Integer.MIN_VALUE, HIGH = Integer.MAX_VALUE;

    public static void main(String[] args) {
        newObject();
        part();
        thread();
        set();
        man();
        say();
        fault();
        due.end();
    }

    private static void newObject() {
        SevenRounds x = new SevenRounds();
        for (int what = 0; what <= 5; what++) {
            due.is("new: told(" + what + ")", x.told(what), 0);
        }
        for (int i = 0; i < 12; i++) {
            due.is("new: firm", x.told(10 + i), 10);
            due.is("new: tone", x.told(30 + i), 0);
        }
        for (int i = 0; i < 8; i++) {
            due.is("new: need", x.told(50 + i), 8);
        }
        due.is("new: down", x.down(), 0);
        due.is("new: tones", x.tones(), 1023);
        due.is("new: fault", x.fault(), -6);
        due.is("new: restore(0)", x.restore(0), -3);
        due.is("new: restore(1)", x.restore(1), -3);
    }

    private static void part() {
        SevenRounds x = new SevenRounds();
        due.is("part(0, 99, 9)", x.part(0, 99, 9), 10);
        due.is("part(0, 0, 0)", x.part(0, 0, 0), 99);
        due.is("part(11, 5, 3)", x.part(11, 5, 3), 10);
        due.is("firm of 0", x.told(10), 0);
        due.is("firm of 11", x.told(21), 5);
        due.is("tone of 11", x.told(41), 3);
        due.is("down", x.down(), 1);
        for (int bad : new int[] {-1, 12, LOW, HIGH}) {
            due.is("part unknown", x.part(bad, 5, 5), -1);
            due.is("part unknown first", x.part(bad, 100, 10), -1);
        }
        for (int bad : new int[] {-1, 100, LOW, HIGH}) {
            due.is("firm outside", x.part(11, bad, 7), -2);
        }
        for (int bad : new int[] {-1, 10, LOW, HIGH}) {
            due.is("tone outside", x.part(11, 7, bad), -2);
        }
        due.is("firm stays when refused", x.told(21), 5);
        due.is("tone stays when refused", x.told(41), 3);
    }

    private static void thread() {
        SevenRounds x = new SevenRounds();
        due.is("thread(3, true)", x.thread(3, true), 1);
        due.is("thread(3, true) again", x.thread(3, true), 1);
        due.is("thread(11, true)", x.thread(11, true), 2);
        due.is("thread(0, false)", x.thread(0, false), 2);
        due.is("threads", x.told(4), 8 + 2048);
        for (int bad : new int[] {-1, 12, 32, 35, LOW, HIGH}) {
            due.is("thread unknown", x.thread(bad, true), -1);
            due.is("thread unknown", x.thread(bad, false), -1);
        }
        due.is("threads stay", x.told(4), 8 + 2048);
        due.is("thread(3, false)", x.thread(3, false), 1);
        due.is("threads", x.told(4), 2048);
    }

    private static void set() {
        int[] most = {99, 12, 99};
        int[] tell = {2, 3, 1};
        for (int which = 0; which < 3; which++) {
            SevenRounds x = new SevenRounds();
            due.is("set most", x.set(which, most[which]), 0);
            due.is("told", x.told(tell[which]), most[which]);
            for (int bad : new int[] {-1, most[which] + 1, LOW, HIGH}) {
                due.is("set outside", x.set(which, bad), -2);
            }
            due.is("set 1", x.set(which, 1), most[which]);
            due.is("set 0", x.set(which, 0), 1);
            for (int other = 1; other <= 3; other++) {
                due.is("others stay", x.told(other), 0);
            }
        }
        SevenRounds x = new SevenRounds();
        for (int bad : new int[] {-1, 3, LOW, HIGH}) {
            due.is("set which", x.set(bad, 0), -2);
        }
    }

    private static void man() {
        SevenRounds x = new SevenRounds();
        due.is("man(0, 0)", x.man(0, 0), 8);
        due.is("man(7, 3)", x.man(7, 3), 8);
        due.is("man(7, 8)", x.man(7, 8), 3);
        for (int bad : new int[] {-1, 8, LOW, HIGH}) {
            due.is("man unknown", x.man(bad, 0), -1);
            due.is("man unknown first", x.man(bad, 9), -1);
        }
        for (int bad : new int[] {-1, 9, LOW, HIGH}) {
            due.is("need outside", x.man(7, bad), -2);
        }
        due.is("need of 0", x.told(50), 0);
        due.is("need of 7", x.told(57), 8);
    }

    private static void say() {
        SevenRounds x = new SevenRounds();
        for (int bad : new int[] {32, 127, 0, -1, LOW, HIGH}) {
            due.is("say outside", x.say(bad), -2);
        }
        due.is("say(33)", x.say(33), 1);
        due.is("say(126)", x.say(126), 2);
        for (int i = 3; i <= 60; i++) {
            due.is("say", x.say('.'), i);
        }
        due.is("say full", x.say('.'), -4);
        due.is("say outside before full", x.say(32), -2);
        due.is("signs", x.told(0), 60);
        due.is("wipe", x.wipe(), 60);
        due.is("wipe again", x.wipe(), 0);
        due.is("say after wipe", x.say('.'), 1);
        due.is("what was wiped is gone", x.fault(), -6);
    }

    private static void fault() {
        fault("", -6);
        fault(".", -6);
        fault("!", -6);
        fault("n", -6);
        fault("h", 1);
        fault("h0", -6);
        fault("h9", -6);
        fault("h/", 1);
        fault("h:", 1);
        fault("hh", 1);
        fault("hh0", 1);
        fault("h00", 2);
        fault("h0h", 3);
        fault("h0h9", -6);
        fault("0", 0);
        fault("9.", 0);
        fault("..x", 2);
        fault("..xh", 2);
        fault("H1", 0);
        fault("N", 0);
        fault("h.", 1);
        fault(".!nh5n!.", -6);
        fault("h1".repeat(30), -6);
        fault("h1".repeat(29) + ".h", 60);
        fault(".".repeat(59) + "x", 59);
    }

    private static void fault(String rounds, int want) {
        SevenRounds x = Due.write(new SevenRounds(), rounds);
        due.is("fault of " + rounds, x.fault(), want);
        due.is("signs stay", x.told(0), rounds.length());
        if (want != SevenRounds.NONE) {
            due.is("judge of fault", x.judge(0), -5);
            due.is("judge of fault", x.judge(1), -5);
            due.is("done of fault", x.done(), -5);
            due.is("behind of fault", x.behind(0), -5);
            due.is("then of fault", x.then(0), -5);
            due.is("fell of fault", x.fell(0), -5);
            due.is("judge outside before NO", x.judge(2), -2);
            due.is("behind unknown before NO", x.behind(12), -1);
            due.is("then outside before NO", x.then(3), -2);
            due.is("fell outside before NO", x.fell(-1), -2);
            due.is("signs stay when refused", x.told(0), rounds.length());
        }
    }
}
