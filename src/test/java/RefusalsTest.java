import java.io.IOException;
import java.util.ArrayList;
import java.util.Arrays;
import java.util.List;

/**
 * Every call by the last numbers that are allowed and the first that are not, on both sides, in all
 * their combinations, on objects in several states: the first refusal that fits, and nothing changed.
 */
public final class RefusalsTest {
    private static final int NONE = Sentences.NONE, UNKNOWN = Sentences.UNKNOWN, OUTSIDE = Sentences.OUTSIDE;
    private static final int NO = Sentences.NO, STATE = Sentences.STATE, FULL = Sentences.FULL;
    private static final int LOW = Sentences.LOW, HIGH = Sentences.HIGH;
    private static final long LOST = -1000000000000000000L;

    private interface Call {
        long ask(SevenRounds x, int[] a);
    }

    private interface Making {
        SevenRounds make();
    }

    /** A number of a call: which are as told, and what is answered for others. */
    private static final class Range {
        final int least;
        final int most;
        final int refusal;

        Range(int least, int most, int refusal) {
            this.least = least;
            this.most = most;
            this.refusal = refusal;
        }

        boolean has(int number) {
            return least <= number && number <= most;
        }

        int[] edges() {
            return new int[] {LOW, least - 1, least, most, most + 1, HIGH};
        }
    }

    private static final class Asked {
        final String name;
        final boolean changes;
        final Call call;
        final Range[] ranges;

        Asked(String name, boolean changes, Call call, Range... ranges) {
            this.name = name;
            this.changes = changes;
            this.call = call;
            this.ranges = ranges;
        }

        /** The refusal by numbers alone: UNKNOWN goes before OUTSIDE; 0: there is none. */
        int refusal(int[] a) {
            int found = 0;
            for (int i = 0; i < a.length; i++) {
                if (!ranges[i].has(a[i]) && found != UNKNOWN) {
                    found = ranges[i].refusal;
                }
            }
            return found;
        }
    }

    private static Sentences due;

    public static void main(String[] args) throws IOException {
        due = new Sentences();
        byNumbers();
        changeNothing();
        unknownAheadOfNo();
        outsideAheadOfNo();
        outsideAheadOfState();
        outsideAheadOfFull();
        stateAndFullChangeNothing();
        due.end();
    }

    private static Range unknown(int least, int most) {
        return new Range(least, most, UNKNOWN);
    }

    private static Range outside(int least, int most) {
        return new Range(least, most, OUTSIDE);
    }

    private static List<Asked> calls() {
        List<Asked> all = new ArrayList<>();
        all.add(new Asked("part", true, (x, a) -> x.part(a[0], a[1], a[2]), unknown(0, 11), outside(0, 99), outside(0, 9)));
        all.add(new Asked("thread to", true, (x, a) -> x.thread(a[0], true), unknown(0, 11)));
        all.add(new Asked("thread from", true, (x, a) -> x.thread(a[0], false), unknown(0, 11)));
        all.add(new Asked("set which, 0", true, (x, a) -> x.set(a[0], 0), outside(0, 2)));
        all.add(new Asked("set which, 12", true, (x, a) -> x.set(a[0], 12), outside(0, 2)));
        all.add(new Asked("set(0)", true, (x, a) -> x.set(0, a[0]), outside(0, 99)));
        all.add(new Asked("set(1)", true, (x, a) -> x.set(1, a[0]), outside(0, 12)));
        all.add(new Asked("set(2)", true, (x, a) -> x.set(2, a[0]), outside(0, 99)));
        all.add(new Asked("man", true, (x, a) -> x.man(a[0], a[1]), unknown(0, 7), outside(0, 8)));
        all.add(new Asked("say", true, (x, a) -> x.say(a[0]), outside(33, 126)));
        all.add(new Asked("judge", false, (x, a) -> x.judge(a[0]), outside(0, 1)));
        all.add(new Asked("behind", false, (x, a) -> x.behind(a[0]), unknown(0, 11)));
        all.add(new Asked("then", false, (x, a) -> x.then(a[0]), outside(0, 2)));
        all.add(new Asked("fell", false, (x, a) -> x.fell(a[0]), outside(0, 1)));
        all.add(new Asked("shout", false, (x, a) -> x.shout(a[0]), outside(1, 12)));
        all.add(new Asked("horns", false, (x, a) -> x.horns(a[0], a[1]), outside(0, 3), outside(0, 1)));
        all.add(new Asked("weakest", false, (x, a) -> x.weakest(a[0], a[1]), outside(1, 12), outside(0, 1)));
        all.add(new Asked("watch", false, (x, a) -> x.watch(a[0], a[1], a[2]), outside(0, 4095), outside(0, 3), outside(0, 1)));
        all.add(new Asked("seen", true, (x, a) -> x.seen(a[0], a[1]), outside(0, 9), outside(0, 2)));
        all.add(new Asked("next", false, (x, a) -> x.next(a[0]), outside(0, 1)));
        all.add(new Asked("chain", false, (x, a) -> x.chain(a[0]), unknown(0, 255)));
        all.add(new Asked("quiet", false, (x, a) -> x.quiet(a[0], a[1], a[2]), unknown(0, 255), outside(0, 8), outside(0, 1)));
        all.add(new Asked("water", false, (x, a) -> orRefusal(x.water(a[0], a[1], a[2], a[3])),
                outside(0, 9), outside(0, 10), outside(0, 1), outside(0, 1)));
        all.add(new Asked("lots", false, (x, a) -> x.lots(a[0], a[1], a[2], a[3]),
                outside(1, 20), outside(1, 20), outside(1, 20), outside(0, 1)));
        all.add(new Asked("day", false, (x, a) -> x.day(a[0], a[1], a[2]), outside(0, 9999), outside(1, 99), outside(0, 2)));
        all.add(new Asked("image", true, (x, a) -> x.image(a[0]), outside(0, 1)));
        all.add(new Asked("restore", true, (x, a) -> x.restore(a[0]), outside(0, 1)));
        all.add(new Asked("told the first", false, (x, a) -> x.told(a[0]), outside(0, 5)));
        all.add(new Asked("told firm", false, (x, a) -> x.told(a[0]), outside(10, 21)));
        all.add(new Asked("told tone", false, (x, a) -> x.told(a[0]), outside(30, 41)));
        all.add(new Asked("told need", false, (x, a) -> x.told(a[0]), outside(50, 57)));
        all.add(new Asked("fault", false, (x, a) -> x.fault()));
        all.add(new Asked("down", false, (x, a) -> x.down()));
        all.add(new Asked("tones", false, (x, a) -> x.tones()));
        return all;
    }

    /** water's refusals are told with LOST: without it they are like those of other calls. */
    private static long orRefusal(long answer) {
        return answer < 0 ? answer - LOST : answer;
    }

    private static List<Making> states() {
        List<Making> all = new ArrayList<>();
        all.add(SevenRounds::new);
        all.add(() -> rich("!n.h9"));
        all.add(() -> rich(".".repeat(60)));
        all.add(() -> rich(".".repeat(59) + "h"));
        all.add(() -> rich("h"));
        all.add(() -> rich("x"));
        all.add(() -> rich("!!"));
        all.add(RefusalsTest::highest);
        all.add(RefusalsTest::lowest);
        return all;
    }

    /** An object in which each thing has a number of its own, and image 1 is kept, image 0 is not. */
    private static SevenRounds rich(String rounds) {
        SevenRounds x = new SevenRounds();
        x.set(0, 77);
        x.seen(2, 0);
        x.man(3, 1);
        x.part(4, 44, 4);
        x.image(1);
        for (int part = 0; part < 12; part++) {
            x.part(part, 5 * part, (part + 3) % 10);
            x.thread(part, part % 3 == 0);
        }
        for (int man = 0; man < 8; man++) {
            x.man(man, 8 - man);
        }
        x.set(0, 6);
        x.set(1, 4);
        x.set(2, 38);
        x.seen(5, 0);
        return Sentences.write(x, rounds);
    }

    private static SevenRounds highest() {
        SevenRounds x = Sentences.evenWall(99, 9);
        for (int part = 0; part < 12; part++) {
            x.thread(part, true);
        }
        x.set(0, 99);
        x.set(1, 12);
        x.set(2, 99);
        for (int i = 0; i < 8; i++) {
            x.seen(9, 2);
        }
        x.image(0);
        return Sentences.write(x, ".");
    }

    private static SevenRounds lowest() {
        SevenRounds x = Sentences.evenWall(0, 0);
        for (int man = 0; man < 8; man++) {
            x.man(man, 0);
        }
        for (int i = 0; i < 8; i++) {
            x.seen(i, 2);
        }
        return Sentences.write(x, "n");
    }

    private static List<int[]> combinations(Range[] ranges) {
        List<int[]> rows = new ArrayList<>();
        rows.add(new int[0]);
        for (Range range : ranges) {
            List<int[]> longer = new ArrayList<>();
            for (int[] row : rows) {
                for (int number : range.edges()) {
                    int[] next = Arrays.copyOf(row, row.length + 1);
                    next[row.length] = number;
                    longer.add(next);
                }
            }
            rows = longer;
        }
        return rows;
    }

    private static void byNumbers() {
        due.says("Calls that are refused answer, the first of these that fits: UNKNOWN -1 (there is no such PART,"
                + " MAN), OUTSIDE -2 (another number is not as told)");
        for (Making state : states()) {
            for (Asked asked : calls()) {
                for (int[] a : combinations(asked.ranges)) {
                    long answer = asked.call.ask(state.make(), a);
                    String call = asked.name + Arrays.toString(a);
                    if (asked.refusal(a) != 0) {
                        due.is(call, answer, asked.refusal(a));
                    } else {
                        due.holds(call + " answers as told, not " + answer, answer != UNKNOWN && answer != OUTSIDE);
                    }
                }
            }
        }
    }

    private static void changeNothing() {
        due.says("They change nothing.");
        for (Making state : states()) {
            long[] before = Print.of(state.make());
            for (Asked asked : calls()) {
                for (int[] a : combinations(asked.ranges)) {
                    if (asked.refusal(a) != 0 || !asked.changes) {
                        SevenRounds x = state.make();
                        asked.call.ask(x, a);
                        String call = asked.name + Arrays.toString(a);
                        due.holds(call + " changes nothing", Arrays.equals(before, Print.of(x)));
                    }
                }
            }
        }
    }

    private static void unknownAheadOfNo() {
        due.says("UNKNOWN -1 (there is no such PART, MAN), OUTSIDE -2 (another number is not as told), NO -5 (as told)");
        for (String rounds : new String[] {"h", "x", "!", "n"}) {
            for (int part : new int[] {LOW, -1, 12, HIGH}) {
                due.is("behind(" + part + ") of " + rounds, Sentences.written(rounds).behind(part), UNKNOWN);
            }
            due.is("behind(0) of " + rounds, Sentences.written(rounds).behind(0), NO);
            due.is("behind(11) of " + rounds, Sentences.written(rounds).behind(11), NO);
        }
    }

    private static void outsideAheadOfNo() {
        due.says("OUTSIDE -2 (another number is not as told), NO -5 (as told)");
        for (String rounds : new String[] {"h", "x", "!", "n"}) {
            boolean fault = rounds.equals("h") || rounds.equals("x");
            for (int what : new int[] {LOW, -1, 2, HIGH}) {
                due.is("judge(" + what + ") of " + rounds, Sentences.written(rounds).judge(what), OUTSIDE);
                due.is("fell(" + what + ") of " + rounds, Sentences.written(rounds).fell(what), OUTSIDE);
            }
            for (int what : new int[] {LOW, -1, 3, HIGH}) {
                due.is("then(" + what + ") of " + rounds, Sentences.written(rounds).then(what), OUTSIDE);
            }
            for (int what = 0; what < 2; what++) {
                long judged = Sentences.written(rounds).judge(what);
                due.holds("judge(" + what + ") of " + rounds, fault == (judged == NO));
                due.is("fell(" + what + ") of " + rounds, Sentences.written(rounds).fell(what), NO);
                due.is("then(" + what + ") of " + rounds, Sentences.written(rounds).then(what), NO);
            }
            due.is("then(2) of " + rounds, Sentences.written(rounds).then(2), NO);
        }
    }

    private static void outsideAheadOfState() {
        due.says("NO -5 (as told), STATE -3 (as told)");
        SevenRounds x = new SevenRounds();
        for (int n : new int[] {LOW, -1, 2, HIGH}) {
            due.is("restore(" + n + "), none is kept", x.restore(n), OUTSIDE);
        }
        due.is("restore(0), none is kept", x.restore(0), STATE);
        due.is("restore(1), none is kept", x.restore(1), STATE);
        x.image(0);
        x.image(1);
        for (int n : new int[] {LOW, -1, 2, HIGH}) {
            due.is("restore(" + n + "), both are kept", x.restore(n), OUTSIDE);
        }
    }

    private static void outsideAheadOfFull() {
        due.says("STATE -3 (as told), FULL -4.");
        SevenRounds x = Sentences.written(".".repeat(60));
        for (int sign : new int[] {LOW, -1, 0, 32, 127, HIGH}) {
            due.is("say(" + sign + ") on the full pad", x.say(sign), OUTSIDE);
        }
        due.is("say(33) on the full pad", x.say(33), FULL);
        due.is("say(126) on the full pad", x.say(126), FULL);
        for (int i = 0; i < 8; i++) {
            x.seen(0, 0);
        }
        for (int tone : new int[] {LOW, -1, 10, HIGH}) {
            due.is("seen(" + tone + ", 0), the ninth", x.seen(tone, 0), OUTSIDE);
        }
        for (int less : new int[] {LOW, -1, 3, HIGH}) {
            due.is("seen(0, " + less + "), the ninth", x.seen(0, less), OUTSIDE);
        }
        due.is("seen(0, 0), the ninth", x.seen(0, 0), FULL);
        due.is("seen(9, 2), the ninth", x.seen(9, 2), FULL);
    }

    private static void stateAndFullChangeNothing() {
        due.says("NO -5 (as told), STATE -3 (as told), FULL -4. They change nothing.");
        for (String rounds : new String[] {".h", "..x", ".!!", "!!n"}) {
            SevenRounds x = rich(rounds);
            boolean mayBe = x.judge(0) == NONE;
            due.holds("no round of " + rounds, !mayBe);
            due.is("done() of " + rounds, x.done(), NO);
            due.is("behind(3) of " + rounds, x.behind(3), NO);
            due.is("then(1) of " + rounds, x.then(1), NO);
            due.is("fell(0) of " + rounds, x.fell(0), NO);
            due.holds("NO changes nothing", Arrays.equals(Print.of(rich(rounds)), Print.of(x)));
        }
        SevenRounds x = rich(".");
        due.is("restore(0)", x.restore(0), STATE);
        due.holds("STATE changes nothing", Arrays.equals(Print.of(rich(".")), Print.of(x)));
        for (String rounds : new String[] {".".repeat(60), "h0".repeat(30), ".".repeat(59) + "h"}) {
            x = rich(rounds);
            due.is("say('5') on the full pad", x.say('5'), FULL);
            due.is("say('x') on the full pad", x.say('x'), FULL);
            due.holds("FULL changes nothing", Arrays.equals(Print.of(rich(rounds)), Print.of(x)));
        }
        x = highest();
        due.is("seen(0, 2), the ninth", x.seen(0, 2), FULL);
        due.holds("FULL changes nothing", Arrays.equals(Print.of(highest()), Print.of(x)));
    }
}
