import java.io.IOException;

/** The edges that the document names for the wall, the pad and the fault, and for promises 1 to 8. */
public final class WallEdgesTest {
    private static final int NONE = Sentences.NONE, UNKNOWN = Sentences.UNKNOWN, OUTSIDE = Sentences.OUTSIDE;
    private static final int NO = Sentences.NO, STATE = Sentences.STATE, FULL = Sentences.FULL;

    private static Sentences due;

    public static void main(String[] args) throws IOException {
        due = new Sentences();
        setsAreBits();
        parts();
        firm();
        tone();
        threads();
        held();
        masons();
        round();
        callsOfOneObject();
        newObject();
        partPromise();
        threadPromise();
        setPromise();
        manPromise();
        sixtySigns();
        codes();
        sayPromise();
        wipePromise();
        faultAtFirstSign();
        faultBehindHorns();
        faultOfMore();
        faultPromise();
        due.end();
    }

    private static void setsAreBits() {
        due.says("Sets are bits.");
        for (int part = 0; part < 12; part++) {
            SevenRounds x = new SevenRounds();
            x.part(part, 0, 0);
            x.thread(part, true);
            due.is("down, part " + part, x.down(), 1L << part);
            due.is("threads, part " + part, x.told(4), 1L << part);
            due.is("then(0), part " + part, x.then(0), 1L << part);
            due.is("watch, part " + part, x.watch(1 << part, 0, 1), 1L << part);
        }
        for (int man = 0; man < 8; man++) {
            due.is("chain, man " + man, new SevenRounds().chain(1 << man), 1L << man);
        }
        for (int tone = 0; tone < 10; tone++) {
            SevenRounds x = new SevenRounds();
            x.seen(tone, 2);
            due.is("tones, tone " + tone, x.tones(), 1L << tone);
        }
    }

    private static void parts() {
        due.says("PARTS 0 to 11 of a wall in a ring (0 is beside 11)");
        SevenRounds x = new SevenRounds();
        due.is("part(0)", x.part(0, 2, 1), 10);
        due.is("part(11)", x.part(11, 1, 2), 10);
        due.is("part(-1)", x.part(-1, 1, 1), UNKNOWN);
        due.is("part(12)", x.part(12, 1, 1), UNKNOWN);
        due.is("11 and 0 are a stretch", x.weakest(2, 0), 11);
        due.is("11 and 0 are a stretch", x.weakest(2, 1), 3);
        due.is("11 and 0 fall side by side", x.shout(2), 2);
        due.is("from 0 part 11 is seen", x.watch(2048, 1, 1), 1);
        due.is("from 0 part 10 is seen at 2", x.watch(1024, 2, 1), 1);
        due.is("from 0 part 9 is seen at 3", x.watch(512, 3, 1), 1);
        due.is("from 0 part 10 is not seen at 1", x.watch(1024, 1, 1), 512);
    }

    private static void firm() {
        due.says("each is FIRM (0 to 99; 10 at first; DOWN, if that is 0)");
        for (int part = 0; part < 12; part++) {
            SevenRounds x = new SevenRounds();
            due.is("10 at first", x.told(10 + part), 10);
            due.is("99 is allowed", x.part(part, 99, 0), 10);
            due.is("100 is not", x.part(part, 100, 0), OUTSIDE);
            due.is("99 stays", x.told(10 + part), 99);
            due.is("99 is not down", x.down(), 0);
            due.is("1 is allowed", x.part(part, 1, 0), 99);
            due.is("1 is not down", x.down(), 0);
            due.is("0 is allowed", x.part(part, 0, 0), 1);
            due.is("0 is down", x.down(), 1L << part);
            due.is("-1 is not allowed", x.part(part, -1, 0), OUTSIDE);
            due.is("0 stays", x.told(10 + part), 0);
        }
        due.is("all are down", Sentences.evenWall(0, 0).down(), 4095);
    }

    private static void tone() {
        due.says("has a TONE (0 to 9; 0 at first)");
        for (int part = 0; part < 12; part++) {
            SevenRounds x = new SevenRounds();
            due.is("0 at first", x.told(30 + part), 0);
            due.is("9 is allowed", x.part(part, 10, 9), 10);
            due.is("9 is so", x.told(30 + part), 9);
            due.is("10 is not", x.part(part, 3, 10), OUTSIDE);
            due.is("-1 is not", x.part(part, 3, -1), OUTSIDE);
            due.is("9 stays", x.told(30 + part), 9);
            due.is("firm stays", x.told(10 + part), 10);
            due.is("0 is allowed", x.part(part, 10, 0), 10);
            due.is("0 is so", x.told(30 + part), 0);
        }
    }

    private static void threads() {
        due.says("and a THREAD, or none (none at first)");
        SevenRounds x = new SevenRounds();
        due.is("none at first", x.told(4), 0);
        for (int part = 0; part < 12; part++) {
            due.is("one more", x.thread(part, true), part + 1);
        }
        due.is("all have one", x.told(4), 4095);
        due.is("all have one, again", x.thread(0, true), 12);
        for (int part = 11; part >= 0; part--) {
            due.is("one less", x.thread(part, false), part);
        }
        due.is("none has one", x.told(4), 0);
        due.is("none has one, again", x.thread(11, false), 0);
    }

    /** A number of set: at first, its last, the first that are not allowed. */
    private static void setAtEdges(int which, int told, int most) {
        SevenRounds x = new SevenRounds();
        due.is("at first", x.told(told), 0);
        due.is("the most", x.set(which, most), 0);
        due.is("is told", x.told(told), most);
        due.is("one too large", x.set(which, most + 1), OUTSIDE);
        due.is("one too small", x.set(which, -1), OUTSIDE);
        due.is("stays", x.told(told), most);
        due.is("the least", x.set(which, 0), most);
        due.is("is told", x.told(told), 0);
    }

    private static void held() {
        due.says("HELD is how much noise is held back (0 to 99; 0 at first)");
        setAtEdges(0, 2, 99);
    }

    private static void masons() {
        due.says("MASONS 0 to 12 (0 at first)");
        setAtEdges(1, 3, 12);
    }

    private static void round() {
        due.says("It is round 0 at first.");
        setAtEdges(2, 1, 99);
        due.is("behind nothing", new SevenRounds().then(2), 0);
    }

    private static void callsOfOneObject() {
        due.says("An object is used for at most 512 calls after it has been made");
        SevenRounds x = new SevenRounds();
        for (int call = 1; call <= 510; call++) {
            due.is("call " + call, x.set(0, call % 100), (call - 1) % 100);
        }
        due.is("call 511", x.image(1), 1);
        due.is("call 512", x.told(2), 10);
    }

    private static void newObject() {
        due.promises(1, "A wall of ten; nothing is held.");
        SevenRounds x = new SevenRounds();
        for (int part = 0; part < 12; part++) {
            due.is("part " + part, x.told(10 + part), 10);
        }
        due.is("held", x.told(2), 0);
        due.is("a shout can not be", Sentences.write(x, "!").judge(1), 2);
        due.is("signs", new SevenRounds().told(0), 0);
        due.is("sights", new SevenRounds().told(5), 0);
        due.is("image 0", new SevenRounds().restore(0), STATE);
        due.is("image 1", new SevenRounds().restore(1), STATE);
        SevenRounds used = new SevenRounds();
        used.part(0, 0, 9);
        used.set(0, 99);
        due.is("no object has to do with another: firm", new SevenRounds().told(10), 10);
        due.is("no object has to do with another: held", new SevenRounds().told(2), 0);
    }

    private static void partPromise() {
        due.promises(2, "How FIRM a PART is, its TONE: how FIRM it was. UNKNOWN; OUTSIDE.");
        SevenRounds x = new SevenRounds();
        due.is("first", x.part(11, 99, 9), 10);
        due.is("it was 99", x.part(11, 99, 0), 99);
        due.is("a tone alone", x.told(41), 0);
        due.is("it was 99 again", x.part(11, 0, 0), 99);
        due.is("it was down", x.part(11, 1, 0), 0);
        due.is("unknown ahead of outside: firm", x.part(12, 100, 0), UNKNOWN);
        due.is("unknown ahead of outside: tone", x.part(-1, 0, 10), UNKNOWN);
        due.is("a good tone with a bad firm", x.part(11, 100, 5), OUTSIDE);
        due.is("a good firm with a bad tone", x.part(11, 50, -1), OUTSIDE);
        due.is("firm stays", x.told(21), 1);
        due.is("tone stays", x.told(41), 0);
        due.is("another part stays", x.told(20), 10);
    }

    private static void threadPromise() {
        due.promises(3, "A PART has a THREAD, or none: how many have. UNKNOWN.");
        SevenRounds x = new SevenRounds();
        due.is("11 has one", x.thread(11, true), 1);
        due.is("0 has one", x.thread(0, true), 2);
        due.is("12 is unknown", x.thread(12, true), UNKNOWN);
        due.is("-1 is unknown", x.thread(-1, false), UNKNOWN);
        due.is("43 is unknown, and not 11", x.thread(32 + 11, false), UNKNOWN);
        due.is("-21 is unknown, and not 11", x.thread(11 - 32, false), UNKNOWN);
        due.is("threads stay", x.told(4), 2049);
        x.part(11, 0, 0);
        due.is("what is down keeps its thread", x.told(4), 2049);
    }

    private static void setPromise() {
        due.promises(4, "HELD (which = 0), MASONS (1), the round (2: 0 to 99): which it was. OUTSIDE.");
        SevenRounds x = new SevenRounds();
        due.is("held", x.set(0, 31), 0);
        due.is("masons", x.set(1, 11), 0);
        due.is("round", x.set(2, 51), 0);
        due.is("held was", x.set(0, 32), 31);
        due.is("masons was", x.set(1, 12), 11);
        due.is("round was", x.set(2, 52), 51);
        due.is("which -1", x.set(-1, 0), OUTSIDE);
        due.is("which 3", x.set(3, 0), OUTSIDE);
        due.is("13 masons", x.set(1, 13), OUTSIDE);
        due.is("round 100", x.set(2, 100), OUTSIDE);
        due.is("held stays", x.told(2), 32);
        due.is("masons stay", x.told(3), 12);
        due.is("round stays", x.told(1), 52);
    }

    private static void manPromise() {
        due.promises(5, "How many a MAN NEEDS: which it was. UNKNOWN; OUTSIDE.");
        SevenRounds x = new SevenRounds();
        for (int man = 0; man < 8; man++) {
            due.is("8 at first", x.man(man, 0), 8);
            due.is("0 is allowed", x.man(man, 8), 0);
            due.is("9 is not", x.man(man, 9), OUTSIDE);
            due.is("-1 is not", x.man(man, -1), OUTSIDE);
            due.is("8 stays", x.told(50 + man), 8);
        }
        due.is("man 8", x.man(8, 0), UNKNOWN);
        due.is("man -1", x.man(-1, 0), UNKNOWN);
        due.is("unknown ahead of outside", x.man(8, 9), UNKNOWN);
    }

    private static void sixtySigns() {
        due.says("ROUNDS are a text on a PAD (60 SIGNS at most");
        SevenRounds x = new SevenRounds();
        for (int n = 1; n <= 60; n++) {
            due.is("sign " + n, x.say(n == 60 ? 'n' : '.'), n);
        }
        due.is("sign 61", x.say('x'), FULL);
        due.is("sixty stand", x.told(0), 60);
        due.is("the first refused one is not there", x.fault(), NONE);
        due.is("the sixtieth is", x.judge(0), 59);
        due.is("and told why it can not be", x.judge(1), 3);
        due.is("all go", x.wipe(), 60);
        due.is("there is room again", x.say('.'), 1);
    }

    private static void codes() {
        due.says("60 SIGNS at most, codes 33 to 126)");
        for (int code = -2; code < 300; code++) {
            boolean allowed = code >= 33 && code <= 126;
            SevenRounds x = new SevenRounds();
            due.is("say(" + code + ")", x.say(code), allowed ? 1 : OUTSIDE);
            due.is("signs", x.told(0), allowed ? 1 : 0);
        }
        // these would be signs of rounds, if only their last eight or sixteen bits counted
        for (int code : new int[] {256 + '.', 65536 + '.', '.' - 256, Sentences.LOW + '.'}) {
            due.is("say(" + code + ")", new SevenRounds().say(code), OUTSIDE);
        }
    }

    private static void sayPromise() {
        due.promises(6, "A sign more: how many. OUTSIDE; FULL.");
        SevenRounds x = new SevenRounds();
        due.is("a sign that never stands is taken", x.say('~'), 1);
        due.is("behind a fault, too", x.say('.'), 2);
        due.is("32", x.say(32), OUTSIDE);
        due.is("127", x.say(127), OUTSIDE);
        due.is("what is refused does not count", x.say('h'), 3);
        for (int n = 4; n <= 60; n++) {
            x.say('.');
        }
        due.is("full", x.say('.'), FULL);
        due.is("outside ahead of full", x.say(127), OUTSIDE);
        due.is("sixty", x.told(0), 60);
    }

    private static void wipePromise() {
        due.promises(7, "Signs go: how many there were.");
        SevenRounds x = new SevenRounds();
        due.is("none", x.wipe(), 0);
        x.say('.');
        due.is("one", x.wipe(), 1);
        due.is("none again", x.wipe(), 0);
        x.say('h');
        due.is("one that wants more", x.wipe(), 1);
        x.say('5');
        due.is("the next stands first, not behind h", x.fault(), 0);
        due.is("sixty", Sentences.write(x, "n".repeat(60)).wipe(), 60);
        due.is("the wall stays", x.told(10), 10);
    }

    private static void faultAtFirstSign() {
        due.says("THE FAULT: the place (from 0 on) of the first sign that can not stand there");
        for (int code = 33; code <= 126; code++) {
            boolean stands = code == '.' || code == '!' || code == 'n';
            int first = stands ? NONE : code == 'h' ? 1 : 0;
            String sign = String.valueOf((char) code);
            due.is("at 0: " + sign, Sentences.written(sign).fault(), first);
            for (String before : new String[] {".", "!", "n", "h0", "h9", "h5.h5", ".".repeat(59)}) {
                int want = first == NONE ? NONE : before.length() + first;
                due.is(before + sign, Sentences.written(before + sign).fault(), want);
            }
        }
        due.is("of two the first", Sentences.written(".x.x").fault(), 1);
        due.is("ahead of what wants more", Sentences.written("xh").fault(), 0);
    }

    private static void faultBehindHorns() {
        due.says("h and a digit 0 to 9 (a round with horns of that TONE");
        for (int code = 33; code <= 126; code++) {
            boolean digit = code >= '0' && code <= '9';
            String sign = String.valueOf((char) code);
            due.is("h" + sign, Sentences.written("h" + sign).fault(), digit ? NONE : 1);
            due.is("h" + sign + "h", Sentences.written("h" + sign + "h").fault(), digit ? 3 : 1);
            due.is("a second digit: h0" + sign, Sentences.written("h0" + sign).fault(),
                    code == '.' || code == '!' || code == 'n' ? NONE : code == 'h' ? 3 : 2);
            String last = ".".repeat(58) + "h" + sign;
            due.is(last, Sentences.written(last).fault(), digit ? NONE : 59);
        }
    }

    private static void faultOfMore() {
        due.says("the number of signs, if more must come.");
        for (int n = 0; n < 60; n++) {
            String rounds = ".".repeat(n) + "h";
            due.is(rounds, Sentences.written(rounds).fault(), n + 1);
        }
        due.is("nothing must come on the empty pad", Sentences.written("").fault(), NONE);
        SevenRounds x = Sentences.written(".".repeat(59) + "h");
        due.is("no more can come on the full pad", x.say('5'), FULL);
        due.is("the fault stays at 60", x.fault(), 60);
        due.is("and judge says NO", x.judge(0), NO);
        due.is("30 horns fill the pad", Sentences.written("h7".repeat(30)).fault(), NONE);
    }

    private static void faultPromise() {
        due.promises(8, "THE FAULT; NONE.");
        SevenRounds x = new SevenRounds();
        due.is("empty", x.fault(), NONE);
        x.say('h');
        due.is("h", x.fault(), 1);
        x.say('9');
        due.is("h9", x.fault(), NONE);
        x.say('9');
        due.is("h99", x.fault(), 2);
        x.say('.');
        due.is("h99.", x.fault(), 2);
        x.wipe();
        due.is("wiped", x.fault(), NONE);
        due.is("an act that can not be is no fault", Sentences.written("!n").fault(), NONE);
        x.set(2, 99);
        due.is("nor is a round behind 99", Sentences.write(x, ".h0").fault(), NONE);
    }
}
