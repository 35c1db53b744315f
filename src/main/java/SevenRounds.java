import java.util.Arrays;

/**
 * An army walks round a walled city: the wall and the rounds told of it, what a shout or horns
 * would do to it, what its echoes tell, who speaks, when to open, who took it.
 */
public final class SevenRounds {
    public static final int NONE = -6, UNKNOWN = -1, OUTSIDE = -2, STATE = -3, FULL = -4, NO = -5;
    public static final long LOST = -1000000000000000000L;

    private static final int PARTS = 12;
    private static final int ALL_PARTS = 4095;
    private static final int FIRM_AT_FIRST = 10;
    private static final int MOST_FIRM = 99;
    private static final int TONES = 10;
    private static final int ALL_TONES = 1023;
    private static final int MOST_LESS = 2;
    private static final int MOST_HELD = 99;
    private static final int LAST_ROUND = 99;
    private static final int MOST_MASONS = 12;

    private static final int PAD_SIGNS = 60;
    private static final int FIRST_SIGN = 33;
    private static final int LAST_SIGN = 126;
    private static final int SILENCE = '.';
    private static final int HORNS = 'h';
    private static final int SHOUT = '!';
    private static final int NIGHT = 'n';

    private static final int CAN_BE = 0;
    private static final int ROUNDS_ARE_OVER = 1;
    private static final int NOTHING_IS_HELD = 2;
    private static final int NO_MASONS = 3;

    private static final int MOST_HORN_ROUNDS = 3;
    private static final int FARTHEST_SIGHT = 3;
    private static final int MOST_SIGHTS = 8;
    private static final int MEN = 8;
    private static final int ALL_MEN = 255;
    private static final int MOST_WATER = 9;
    private static final int TENTHS = 10;
    private static final int KEPT_A_DAY = 10;
    private static final int MOST_OF_A_KIND = 20;
    private static final int LAST_SEED = 9999;
    private static final int MOST_DRAWS = 99;
    private static final int IMAGES = 2;

    private static final int FIRM_TOLD_FROM = 10;
    private static final int TONES_TOLD_FROM = 30;
    private static final int NEEDS_TOLD_FROM = 50;

    private final Pad pad;
    private final Scene now;
    private final Walk walk;
    private final Scene[] images;

    public SevenRounds() {
        pad = new Pad();
        now = new Scene();
        walk = new Walk();
        images = new Scene[IMAGES];
    }

    // ---- 1 the wall, rounds

    public int part(int part, int firm, int tone) {
        if (isOutside(part, 0, PARTS - 1)) {
            return UNKNOWN;
        }
        if (isOutside(firm, 0, MOST_FIRM) || isOutside(tone, 0, TONES - 1)) {
            return OUTSIDE;
        }
        int before = now.wall.firm[part];
        now.wall.firm[part] = firm;
        now.wall.tone[part] = tone;
        return before;
    }

    public int thread(int part, boolean is) {
        if (isOutside(part, 0, PARTS - 1)) {
            return UNKNOWN;
        }
        int bit = 1 << part;
        now.wall.threads = is ? now.wall.threads | bit : now.wall.threads & ~bit;
        return Integer.bitCount(now.wall.threads);
    }

    public int set(int which, int v) {
        switch (which) {
            case 0:
                return isOutside(v, 0, MOST_HELD) ? OUTSIDE : now.wall.replaceHeld(v);
            case 1:
                return isOutside(v, 0, MOST_MASONS) ? OUTSIDE : now.wall.replaceMasons(v);
            case 2:
                return isOutside(v, 0, LAST_ROUND) ? OUTSIDE : now.wall.replaceRound(v);
            default:
                return OUTSIDE;
        }
    }

    public int man(int man, int need) {
        if (isOutside(man, 0, MEN - 1)) {
            return UNKNOWN;
        }
        if (isOutside(need, 0, MEN)) {
            return OUTSIDE;
        }
        int before = now.need[man];
        now.need[man] = need;
        return before;
    }

    public int say(int sign) {
        if (isOutside(sign, FIRST_SIGN, LAST_SIGN)) {
            return OUTSIDE;
        }
        return pad.write(sign) ? pad.count : FULL;
    }

    public int wipe() {
        return pad.clean();
    }

    public int fault() {
        return pad.faultPlace();
    }

    // ---- 2 rounds

    public int judge(int what) {
        if (isOutside(what, 0, 1)) {
            return OUTSIDE;
        }
        if (pad.faultPlace() != NONE) {
            return NO;
        }
        walk.follow(pad, now.wall);
        if (walk.why == CAN_BE) {
            return NONE;
        }
        return what == 0 ? walk.acts : walk.why;
    }

    public int done() {
        if (!canWalk()) {
            return NO;
        }
        now.wall.copyFrom(walk.wall);
        pad.clean();
        return walk.acts;
    }

    public int behind(int part) {
        if (isOutside(part, 0, PARTS - 1)) {
            return UNKNOWN;
        }
        return canWalk() ? walk.wall.firm[part] : NO;
    }

    public int then(int what) {
        if (isOutside(what, 0, 2)) {
            return OUTSIDE;
        }
        if (!canWalk()) {
            return NO;
        }
        switch (what) {
            case 0:
                return walk.wall.downBits();
            case 1:
                return walk.wall.held;
            default:
                return walk.wall.round;
        }
    }

    public int fell(int what) {
        if (isOutside(what, 0, 1)) {
            return OUTSIDE;
        }
        if (!canWalk()) {
            return NO;
        }
        return what == 0 ? walk.fellAct : walk.fellPart;
    }

    public int down() {
        return now.wall.downBits();
    }

    // ---- 3 shouts, horns, watchers

    public int shout(int g) {
        return isOutside(g, 1, PARTS) ? OUTSIDE : now.wall.silentRoundsFor(g);
    }

    public int horns(int k, int what) {
        if (isOutside(k, 0, MOST_HORN_ROUNDS) || isOutside(what, 0, 1)) {
            return OUTSIDE;
        }
        int best = now.wall.bestHorns(k);
        return what == 0 ? now.wall.downByHorns(best, k) : best;
    }

    public int weakest(int g, int what) {
        if (isOutside(g, 1, PARTS) || isOutside(what, 0, 1)) {
            return OUTSIDE;
        }
        int first = now.wall.weakestStretch(g);
        return what == 0 ? first : now.wall.firmTogether(first, g);
    }

    public int watch(int set, int r, int what) {
        if (isOutside(set, 0, ALL_PARTS) || isOutside(r, 0, FARTHEST_SIGHT) || isOutside(what, 0, 1)) {
            return OUTSIDE;
        }
        int watchers = fewestWatchers(set, r);
        return what == 0 ? Integer.bitCount(watchers) : watchers;
    }

    // ---- 4 echoes, men, water, lots

    public int seen(int tone, int less) {
        if (isOutside(tone, 0, TONES - 1) || isOutside(less, 0, MOST_LESS)) {
            return OUTSIDE;
        }
        if (now.sights >= MOST_SIGHTS) {
            return FULL;
        }
        now.sights++;
        now.fitting &= tonesAnswering(tone, less);
        return now.sights;
    }

    public int forget() {
        int before = now.sights;
        now.sights = 0;
        now.fitting = ALL_TONES;
        return before;
    }

    public int tones() {
        return now.fitting;
    }

    public int next(int what) {
        if (isOutside(what, 0, 1)) {
            return OUTSIDE;
        }
        if (now.fitting == 0) {
            return NONE;
        }
        int horn = bestHornToAsk(now.fitting);
        return what == 0 ? horn : mostLeft(now.fitting, horn);
    }

    public int chain(int set) {
        return isOutside(set, 0, ALL_MEN) ? UNKNOWN : now.speakers(set, 0);
    }

    public int quiet(int set, int v, int what) {
        if (isOutside(set, 0, ALL_MEN)) {
            return UNKNOWN;
        }
        if (isOutside(v, 0, MEN) || isOutside(what, 0, 1)) {
            return OUTSIDE;
        }
        int silent = now.fewestSilent(set, v);
        return what == 0 && silent != NONE ? Integer.bitCount(silent) : silent;
    }

    public long water(int w, int t, int what, int part) {
        if (isOutside(w, 0, MOST_WATER) || isOutside(t, 0, TENTHS)
                || isOutside(what, 0, 1) || isOutside(part, 0, 1)) {
            return LOST + OUTSIDE;
        }
        long scale = powerOfTen(w);
        long kept = keptInTheMean(w, t);
        if (what == 1) {
            // opening is among what they choose from, so the best is opening's exactly if it is no worse
            return kept == KEPT_A_DAY * w * scale ? 1 : 0;
        }
        long common = commonDivisor(scale, kept);
        return (part == 0 ? kept : scale) / common;
    }

    public int lots(int a, int b, int c, int what) {
        if (isOutside(a, 1, MOST_OF_A_KIND) || isOutside(b, 1, MOST_OF_A_KIND)
                || isOutside(c, 1, MOST_OF_A_KIND) || isOutside(what, 0, 1)) {
            return OUTSIDE;
        }
        return what == 0 ? lotsAmong(a * b * c) : lotsAmong(a) + lotsAmong(b) + lotsAmong(c);
    }

    public int day(int seed, int m, int what) {
        if (isOutside(seed, 0, LAST_SEED) || isOutside(m, 1, MOST_DRAWS) || isOutside(what, 0, 2)) {
            return OUTSIDE;
        }
        Wall wall = walk.wall;
        wall.copyFrom(now.wall);
        wall.live(seed, m);
        switch (what) {
            case 0:
                return Integer.bitCount(wall.downBits());
            case 1:
                return wall.held;
            default:
                return wall.round;
        }
    }

    public int image(int n) {
        if (isOutside(n, 0, IMAGES - 1)) {
            return OUTSIDE;
        }
        Scene kept = images[n];
        if (kept == null) {
            kept = new Scene();
            images[n] = kept;
        }
        kept.copyFrom(now);
        return 1;
    }

    public int restore(int n) {
        if (isOutside(n, 0, IMAGES - 1)) {
            return OUTSIDE;
        }
        Scene kept = images[n];
        if (kept == null) {
            return STATE;
        }
        now.copyFrom(kept);
        return 1;
    }

    public int told(int what) {
        if (!isOutside(what, FIRM_TOLD_FROM, FIRM_TOLD_FROM + PARTS - 1)) {
            return now.wall.firm[what - FIRM_TOLD_FROM];
        }
        if (!isOutside(what, TONES_TOLD_FROM, TONES_TOLD_FROM + PARTS - 1)) {
            return now.wall.tone[what - TONES_TOLD_FROM];
        }
        if (!isOutside(what, NEEDS_TOLD_FROM, NEEDS_TOLD_FROM + MEN - 1)) {
            return now.need[what - NEEDS_TOLD_FROM];
        }
        switch (what) {
            case 0:
                return pad.count;
            case 1:
                return now.wall.round;
            case 2:
                return now.wall.held;
            case 3:
                return now.wall.masons;
            case 4:
                return now.wall.threads;
            case 5:
                return now.sights;
            default:
                return OUTSIDE;
        }
    }

    // ---- what the calls share

    private static boolean isOutside(int number, int least, int most) {
        return number < least || number > most;
    }

    /** Walks the rounds on the pad, on a wall aside, if they stand there without a fault. */
    private boolean canWalk() {
        if (pad.faultPlace() != NONE) {
            return false;
        }
        walk.follow(pad, now.wall);
        return walk.why == CAN_BE;
    }

    /** By how much horns make a part less firm. */
    private static int echo(int horn, int tone) {
        int apart = horn > tone ? horn - tone : tone - horn;
        return apart < MOST_LESS ? MOST_LESS - apart : 0;
    }

    private static int powerOfTen(int digits) {
        int power = 1;
        for (int i = 0; i < digits; i++) {
            power *= 10;
        }
        return power;
    }

    // ---- watchers

    private static int fewestWatchers(int set, int reach) {
        int best = ALL_PARTS;
        int fewest = PARTS;
        for (int watchers = 0; watchers < ALL_PARTS; watchers++) {
            // going up, so of as few the least comes first and stays
            int count = Integer.bitCount(watchers);
            if (count < fewest && (set & ~partsSeen(watchers, reach)) == 0) {
                best = watchers;
                fewest = count;
            }
        }
        return best;
    }

    private static int partsSeen(int watchers, int reach) {
        int seen = watchers;
        for (int step = 1; step <= reach; step++) {
            seen |= turned(watchers, step) | turned(watchers, PARTS - step);
        }
        return seen;
    }

    private static int turned(int parts, int by) {
        return (parts << by | parts >> PARTS - by) & ALL_PARTS;
    }

    // ---- echoes

    /** Those tones of a part, as bits, by which horns of a tone make it so much less firm. */
    private static int tonesAnswering(int horn, int less) {
        int bits = 0;
        for (int tone = 0; tone < TONES; tone++) {
            if (echo(horn, tone) == less) {
                bits |= 1 << tone;
            }
        }
        return bits;
    }

    private static int mostLeft(int fitting, int horn) {
        int most = 0;
        for (int less = 0; less <= MOST_LESS; less++) {
            most = Math.max(most, Integer.bitCount(fitting & tonesAnswering(horn, less)));
        }
        return most;
    }

    private static int bestHornToAsk(int fitting) {
        int best = 0;
        int fewest = mostLeft(fitting, 0);
        for (int horn = 1; horn < TONES; horn++) {
            int left = mostLeft(fitting, horn);
            if (left < fewest) {
                best = horn;
                fewest = left;
            }
        }
        return best;
    }

    // ---- water, lots

    /** What those inside keep, doing best, times ten for each day: so it stays a whole number. */
    private static long keptInTheMean(int days, int tenths) {
        long kept = 0;
        long scale = 1;
        for (int day = 1; day <= days; day++) {
            scale *= 10;
            long opening = KEPT_A_DAY * day * scale;
            // 100 with so many tenths is ten for each tenth
            long waiting = 10 * tenths * scale + (TENTHS - tenths) * kept;
            kept = Math.max(opening, waiting);
        }
        return kept;
    }

    private static long commonDivisor(long a, long b) {
        long high = a;
        long low = b;
        // numbers up to 10^12 need far fewer steps
        for (int step = 0; step < 100 && low != 0; step++) {
            long rest = high % low;
            high = low;
            low = rest;
        }
        return Math.max(1, high);
    }

    private static int lotsAmong(int men) {
        int lots = 0;
        // each lot tells apart at most twice as many; 20 * 20 * 20 want 13
        while (lots < 30 && 1 << lots < men) {
            lots++;
        }
        return lots;
    }

    /** The parts of the wall in their ring, and what is held, the masons, the round. */
    private static final class Wall {
        final int[] firm = new int[PARTS];
        final int[] tone = new int[PARTS];
        int threads;
        int held;
        int masons;
        int round;

        Wall() {
            Arrays.fill(firm, FIRM_AT_FIRST);
        }

        void copyFrom(Wall other) {
            System.arraycopy(other.firm, 0, firm, 0, PARTS);
            System.arraycopy(other.tone, 0, tone, 0, PARTS);
            threads = other.threads;
            held = other.held;
            masons = other.masons;
            round = other.round;
        }

        int replaceHeld(int v) {
            int before = held;
            held = v;
            return before;
        }

        int replaceMasons(int v) {
            int before = masons;
            masons = v;
            return before;
        }

        int replaceRound(int v) {
            int before = round;
            round = v;
            return before;
        }

        int downBits() {
            int bits = 0;
            for (int part = 0; part < PARTS; part++) {
                if (firm[part] == 0) {
                    bits |= 1 << part;
                }
            }
            return bits;
        }

        /** Whether a part stands, and by its thread will stand whatever is blown or shouted. */
        private boolean isSpared(int part) {
            return firm[part] > 0 && (threads >> part & 1) == 1;
        }

        // -- acts

        int obstacle(int sign) {
            switch (sign) {
                case SHOUT:
                    return held == 0 ? NOTHING_IS_HELD : CAN_BE;
                case NIGHT:
                    return masons == 0 ? NO_MASONS : CAN_BE;
                default:
                    return round >= LAST_ROUND ? ROUNDS_ARE_OVER : CAN_BE;
            }
        }

        /** An act that can be; the tone counts for horns alone. */
        void act(int sign, int horn) {
            switch (sign) {
                case SILENCE:
                    held = Math.min(MOST_HELD, held + 1);
                    round++;
                    break;
                case HORNS:
                    blow(horn);
                    round++;
                    break;
                case SHOUT:
                    letOut();
                    break;
                default:
                    mend();
                    break;
            }
        }

        private void blow(int horn) {
            for (int part = 0; part < PARTS; part++) {
                firm[part] = Math.max(leastLeft(part), firm[part] - echo(horn, tone[part]));
            }
        }

        private void letOut() {
            for (int part = 0; part < PARTS; part++) {
                firm[part] = Math.max(leastLeft(part), firm[part] - held);
            }
            held = 0;
        }

        private int leastLeft(int part) {
            return isSpared(part) ? 1 : 0;
        }

        private void mend() {
            // all are chosen first: a part that is mended must not be weighed again
            int chosen = 0;
            for (int mason = 0; mason < masons; mason++) {
                chosen |= leastFirmBeside(chosen);
            }
            for (int part = 0; part < PARTS; part++) {
                firm[part] += chosen >> part & 1;
            }
        }

        /** The least firm part that can be mended, as a bit, other than those chosen; 0: there is none. */
        private int leastFirmBeside(int chosen) {
            int best = 0;
            int least = MOST_FIRM;
            for (int part = 0; part < PARTS; part++) {
                if (firm[part] > 0 && firm[part] < least && (chosen >> part & 1) == 0) {
                    best = 1 << part;
                    least = firm[part];
                }
            }
            return best;
        }

        void live(int seed, int draws) {
            int x = seed;
            for (int i = 0; i < draws; i++) {
                x = (75 * x + 74) % 65537;
                int sign = drawnSign(x % 8);
                if (obstacle(sign) == CAN_BE) {
                    act(sign, x / 8 % TONES);
                }
            }
        }

        private static int drawnSign(int draw) {
            switch (draw) {
                case 4:
                case 5:
                    return HORNS;
                case 6:
                    return SHOUT;
                case 7:
                    return NIGHT;
                default:
                    return SILENCE;
            }
        }

        // -- what could be

        int silentRoundsFor(int stretch) {
            int fewest = NONE;
            for (int first = 0; first < PARTS; first++) {
                int noise = noiseFor(first, stretch);
                int rounds = Math.max(0, noise - held);
                if (noise != NONE && (fewest == NONE || rounds < fewest)) {
                    fewest = rounds;
                }
            }
            return fewest;
        }

        /** How much must be held for a shout to bring a stretch down; NONE: a thread forbids it. */
        private int noiseFor(int first, int stretch) {
            int noise = 0;
            for (int i = 0; i < stretch; i++) {
                int part = (first + i) % PARTS;
                if (isSpared(part)) {
                    return NONE;
                }
                noise = Math.max(noise, firm[part]);
            }
            return noise;
        }

        int bestHorns(int rounds) {
            int best = 0;
            int most = downByHorns(0, rounds);
            int numbers = powerOfTen(rounds);
            for (int number = 1; number < numbers; number++) {
                // the order of horns changes nothing, so the least number's digits never go down
                if (neverGoesDown(number)) {
                    int count = downByHorns(number, rounds);
                    if (count > most) {
                        best = number;
                        most = count;
                    }
                }
            }
            return best;
        }

        private static boolean neverGoesDown(int number) {
            int rest = number;
            for (int i = 1; i < MOST_HORN_ROUNDS; i++) {
                if (rest / 10 % 10 > rest % 10) {
                    return false;
                }
                rest /= 10;
            }
            return true;
        }

        /** How many parts are down behind rounds with horns, whose tones are the digits of a number. */
        int downByHorns(int number, int rounds) {
            int count = 0;
            for (int part = 0; part < PARTS; part++) {
                int left = firm[part];
                int rest = number;
                for (int i = 0; i < rounds; i++) {
                    left -= echo(rest % 10, tone[part]);
                    rest /= 10;
                }
                if (left <= 0 && !isSpared(part)) {
                    count++;
                }
            }
            return count;
        }

        int weakestStretch(int stretch) {
            int best = 0;
            int least = firmTogether(0, stretch);
            for (int first = 1; first < PARTS; first++) {
                int together = firmTogether(first, stretch);
                if (together < least) {
                    best = first;
                    least = together;
                }
            }
            return best;
        }

        int firmTogether(int first, int stretch) {
            int together = 0;
            for (int i = 0; i < stretch; i++) {
                together += firm[(first + i) % PARTS];
            }
            return together;
        }
    }

    /** The signs that have been said. */
    private static final class Pad {
        final int[] signs = new int[PAD_SIGNS];
        int count;

        boolean write(int sign) {
            if (count >= PAD_SIGNS) {
                return false;
            }
            signs[count] = sign;
            count++;
            return true;
        }

        int clean() {
            int before = count;
            count = 0;
            return before;
        }

        int faultPlace() {
            boolean wantsTone = false;
            for (int at = 0; at < count && at < PAD_SIGNS; at++) {
                int sign = signs[at];
                if (wantsTone ? isOutside(sign, '0', '9') : !isAct(sign)) {
                    return at;
                }
                wantsTone = !wantsTone && sign == HORNS;
            }
            return wantsTone ? count : NONE;
        }

        private static boolean isAct(int sign) {
            return sign == SILENCE || sign == HORNS || sign == SHOUT || sign == NIGHT;
        }

        /** The tone of horns whose sign stands at a place; 0 if none follows. */
        int toneBehind(int at) {
            int place = at + 1;
            return place < count && place < PAD_SIGNS ? signs[place] - '0' : 0;
        }
    }

    /** Rounds walked along a wall of their own, up to the first act that can not be. */
    private static final class Walk {
        final Wall wall = new Wall();
        int acts;
        int why;
        int fellAct;
        int fellPart;

        /** The pad has no fault. */
        void follow(Pad pad, Wall from) {
            wall.copyFrom(from);
            acts = 0;
            why = CAN_BE;
            fellAct = NONE;
            fellPart = NONE;
            int at = 0;
            while (at < pad.count && at < PAD_SIGNS) {
                int sign = pad.signs[at];
                why = wall.obstacle(sign);
                if (why != CAN_BE) {
                    return;
                }
                int before = wall.downBits();
                wall.act(sign, sign == HORNS ? pad.toneBehind(at) : 0);
                noteFall(wall.downBits() & ~before);
                acts++;
                at += sign == HORNS ? 2 : 1;
            }
        }

        private void noteFall(int fallen) {
            if (fallen != 0 && fellAct == NONE) {
                fellAct = acts;
                fellPart = leastOf(fallen);
            }
        }

        private static int leastOf(int parts) {
            int part = 0;
            while (part < PARTS - 1 && (parts >> part & 1) == 0) {
                part++;
            }
            return part;
        }
    }

    /** All but the pad: what an image keeps. */
    private static final class Scene {
        final Wall wall = new Wall();
        final int[] need = new int[MEN];
        int sights;
        // the tones that all sights leave: what was seen is not asked for otherwise
        int fitting = ALL_TONES;

        Scene() {
            Arrays.fill(need, MEN);
        }

        void copyFrom(Scene other) {
            wall.copyFrom(other.wall);
            System.arraycopy(other.need, 0, need, 0, MEN);
            sights = other.sights;
            fitting = other.fitting;
        }

        int speakers(int anyway, int silent) {
            int speaking = anyway;
            // each turn but the last moves a man at least
            for (int turn = 0; turn < MEN; turn++) {
                int more = speaking | moved(speaking) & ~silent;
                if (more == speaking) {
                    return speaking;
                }
                speaking = more;
            }
            return speaking;
        }

        /** The men who are not speaking yet, and do so by those who are. */
        private int moved(int speaking) {
            int others = Integer.bitCount(speaking);
            int bits = 0;
            for (int man = 0; man < MEN; man++) {
                if ((speaking >> man & 1) == 0 && others >= need[man]) {
                    bits |= 1 << man;
                }
            }
            return bits;
        }

        int fewestSilent(int anyway, int most) {
            int best = NONE;
            int fewest = MEN + 1;
            for (int silent = 0; silent <= ALL_MEN; silent++) {
                int count = Integer.bitCount(silent);
                if ((silent & anyway) == 0 && count < fewest
                        && Integer.bitCount(speakers(anyway, silent)) <= most) {
                    best = silent;
                    fewest = count;
                }
            }
            return best;
        }
    }
}
