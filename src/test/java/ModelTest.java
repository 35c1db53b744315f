import java.util.Random;

/** All promises: runs of up to 512 calls by chance (the same ones each time), beside the model. */
public final class ModelTest {
    private static final Due due = new Due();
    private static final String SIGNS = "....hhhh!!nnn0123456789x";
    // a wipe, and 62 acts of two signs
    private static final int MOST_CALLS_OF_ONE_ASKING = 125;
    private static final String[] ROUNDS = {".", ".", ".", "h", "h", "h", "!", "n"};

    public static void main(String[] args) {
        allOfWater();
        allOfLots();
        allOfTones();
        for (int run = 0; run < 800 && !due.isWrong(); run++) {
            Random random = new Random(run);
            SevenRounds x = new SevenRounds();
            Model y = new Model();
            begin(random, x, y, run);
            int call = 20;
            // once one answer is wrong the two have parted, and what follows tells nothing
            while (call + MOST_CALLS_OF_ONE_ASKING <= 512 && !due.isWrong()) {
                call += ask(random, x, y, "run " + run + ", call " + call + ": ");
            }
        }
        due.end();
    }

    private static void allOfWater() {
        Model y = new Model();
        for (int w = 0; w <= 9; w++) {
            SevenRounds x = new SevenRounds();
            for (int t = 0; t <= 10; t++) {
                for (int what = 0; what < 2; what++) {
                    for (int part = 0; part < 2; part++) {
                        String call = "water(" + w + ", " + t + ", " + what + ", " + part + ")";
                        due.is(call, x.water(w, t, what, part), y.water(w, t, what, part));
                    }
                }
            }
        }
    }

    private static void allOfLots() {
        Model y = new Model();
        for (int i = 0; i < 8000; i++) {
            SevenRounds x = new SevenRounds();
            int a = 1 + i / 400;
            int b = 1 + i / 20 % 20;
            int c = 1 + i % 20;
            for (int what = 0; what < 2; what++) {
                String call = "lots(" + a + ", " + b + ", " + c + ", " + what + ")";
                due.is(call, x.lots(a, b, c, what), y.lots(a, b, c, what));
            }
        }
    }

    /** All that one, two or three sights can leave. */
    private static void allOfTones() {
        for (int i = 0; i < 27000; i++) {
            SevenRounds x = new SevenRounds();
            Model y = new Model();
            int rest = i;
            for (int sight = 1; sight <= 3; sight++) {
                int tone = rest % 10;
                int less = rest / 10 % 3;
                rest /= 30;
                due.is("seen", x.seen(tone, less), y.seen(tone, less));
                due.is("tones of " + i, x.tones(), y.tones());
                due.is("next(0) of " + i, x.next(0), y.next(0));
                due.is("next(1) of " + i, x.next(1), y.next(1));
            }
        }
    }

    /** Walls of different kinds: one that is new, one nearly down, one of all kinds. */
    private static void begin(Random random, SevenRounds x, Model y, int run) {
        int most = run % 3 == 1 ? 4 : 99;
        for (int p = 0; p < 12 && run % 3 != 0; p++) {
            int firm = random.nextInt(most + 1);
            int tone = random.nextInt(10);
            due.is("begin", x.part(p, firm, tone), y.part(p, firm, tone));
        }
        for (int man = 0; man < 8; man++) {
            int need = random.nextInt(run % 2 == 0 ? 5 : 9);
            due.is("begin", x.man(man, need), y.man(man, need));
        }
    }

    /** A number of a range, now and then one just beside it or far out. */
    private static int number(Random random, int least, int most) {
        int chance = random.nextInt(60);
        if (chance == 0) {
            return least - 1;
        }
        if (chance == 1) {
            return most + 1;
        }
        if (chance == 2) {
            return random.nextInt();
        }
        return least + random.nextInt(most - least + 1);
    }

    private static int ask(Random random, SevenRounds x, Model y, String at) {
        int kind = random.nextInt(34);
        if (kind >= 30) {
            return rounds(random, x, y, at);
        }
        if (kind < 14) {
            askOfRounds(kind, random, x, y, at);
        } else {
            askOfRest(kind, random, x, y, at);
        }
        return 1;
    }

    private static int rounds(Random random, SevenRounds x, Model y, String at) {
        due.is(at + "wipe", x.wipe(), y.wipe());
        int signs = random.nextInt(4) == 0 ? 62 : random.nextInt(12);
        int calls = 1;
        for (int i = 0; i < signs; i++) {
            String act = ROUNDS[random.nextInt(ROUNDS.length)];
            act = act.equals("h") ? act + random.nextInt(10) : act;
            for (char sign : act.toCharArray()) {
                due.is(at + "say " + sign, x.say(sign), y.say(sign));
                calls++;
            }
        }
        return calls;
    }

    private static void askOfRounds(int kind, Random random, SevenRounds x, Model y, String at) {
        int part = number(random, 0, 11);
        int what = number(random, 0, 1);
        int three = number(random, 0, 2);
        switch (kind) {
            case 0: {
                int firm = number(random, 0, 99);
                int tone = number(random, 0, 9);
                String call = "part(" + part + ", " + firm + ", " + tone + ")";
                due.is(at + call, x.part(part, firm, tone), y.part(part, firm, tone));
                break;
            }
            case 1: {
                boolean is = random.nextInt(3) == 0;
                due.is(at + "thread(" + part + ", " + is + ")", x.thread(part, is), y.thread(part, is));
                break;
            }
            case 2: {
                int v = number(random, 0, three == 1 ? 12 : 99);
                due.is(at + "set(" + three + ", " + v + ")", x.set(three, v), y.set(three, v));
                break;
            }
            case 3: {
                int man = number(random, 0, 7);
                int need = number(random, 0, 8);
                due.is(at + "man(" + man + ", " + need + ")", x.man(man, need), y.man(man, need));
                break;
            }
            case 4: {
                int sign = random.nextInt(20) == 0 ? number(random, 33, 126)
                        : SIGNS.charAt(random.nextInt(SIGNS.length()));
                due.is(at + "say(" + sign + ")", x.say(sign), y.say(sign));
                break;
            }
            case 5:
                if (random.nextInt(3) == 0) {
                    due.is(at + "wipe()", x.wipe(), y.wipe());
                }
                break;
            case 6:
                due.is(at + "fault()", x.fault(), y.fault());
                break;
            case 7:
            case 8:
                due.is(at + "judge(" + what + ")", x.judge(what), y.judge(what));
                break;
            case 9:
                due.is(at + "done()", x.done(), y.done());
                break;
            case 10:
                due.is(at + "behind(" + part + ")", x.behind(part), y.behind(part));
                break;
            case 11:
                due.is(at + "then(" + three + ")", x.then(three), y.then(three));
                break;
            case 12:
                due.is(at + "fell(" + what + ")", x.fell(what), y.fell(what));
                break;
            default:
                due.is(at + "down()", x.down(), y.down());
                break;
        }
    }

    private static void askOfRest(int kind, Random random, SevenRounds x, Model y, String at) {
        int what = number(random, 0, 1);
        int g = number(random, 1, 12);
        switch (kind) {
            case 14:
                due.is(at + "shout(" + g + ")", x.shout(g), y.shout(g));
                break;
            case 15: {
                int k = number(random, 0, 3);
                due.is(at + "horns(" + k + ", " + what + ")", x.horns(k, what), y.horns(k, what));
                break;
            }
            case 16:
                due.is(at + "weakest(" + g + ", " + what + ")", x.weakest(g, what), y.weakest(g, what));
                break;
            case 17: {
                int set = number(random, 0, 4095);
                int r = number(random, 0, 3);
                String call = "watch(" + set + ", " + r + ", " + what + ")";
                due.is(at + call, x.watch(set, r, what), y.watch(set, r, what));
                break;
            }
            case 18: {
                int tone = number(random, 0, 9);
                int less = number(random, 0, 2);
                due.is(at + "seen(" + tone + ", " + less + ")", x.seen(tone, less), y.seen(tone, less));
                break;
            }
            case 19:
                if (random.nextInt(3) == 0) {
                    due.is(at + "forget()", x.forget(), y.forget());
                }
                break;
            case 20:
                due.is(at + "tones()", x.tones(), y.tones());
                break;
            case 21:
                due.is(at + "next(" + what + ")", x.next(what), y.next(what));
                break;
            case 22: {
                int set = number(random, 0, 255);
                due.is(at + "chain(" + set + ")", x.chain(set), y.chain(set));
                break;
            }
            case 23: {
                int set = random.nextInt(3) == 0 ? 1 << random.nextInt(9) : number(random, 0, 255);
                int v = number(random, 0, 8);
                String call = "quiet(" + set + ", " + v + ", " + what + ")";
                due.is(at + call, x.quiet(set, v, what), y.quiet(set, v, what));
                break;
            }
            default:
                askOfInside(kind, what, random, x, y, at);
                break;
        }
    }

    private static void askOfInside(int kind, int what, Random random, SevenRounds x, Model y, String at) {
        int n = number(random, 0, 1);
        switch (kind) {
            case 24: {
                int w = number(random, 0, 9);
                int t = number(random, 0, 10);
                String call = "water(" + w + ", " + t + ", " + what + ", " + n + ")";
                due.is(at + call, x.water(w, t, what, n), y.water(w, t, what, n));
                break;
            }
            case 25: {
                int a = number(random, 1, 20);
                int b = number(random, 1, 20);
                int c = number(random, 1, 20);
                String call = "lots(" + a + ", " + b + ", " + c + ", " + what + ")";
                due.is(at + call, x.lots(a, b, c, what), y.lots(a, b, c, what));
                break;
            }
            case 26: {
                int seed = number(random, 0, 9999);
                int m = number(random, 1, 99);
                int three = number(random, 0, 2);
                String call = "day(" + seed + ", " + m + ", " + three + ")";
                due.is(at + call, x.day(seed, m, three), y.day(seed, m, three));
                break;
            }
            case 27:
                due.is(at + "image(" + n + ")", x.image(n), y.image(n));
                break;
            case 28:
                due.is(at + "restore(" + n + ")", x.restore(n), y.restore(n));
                break;
            default: {
                int tell = number(random, 0, 60);
                due.is(at + "told(" + tell + ")", x.told(tell), y.told(tell));
                break;
            }
        }
    }
}
