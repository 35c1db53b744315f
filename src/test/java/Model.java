import java.math.BigInteger;
import java.util.ArrayList;
import java.util.Arrays;
import java.util.List;

/**
 * The document told a second time, as plainly and slowly as it can be: what could be is tried out
 * on copies, never reckoned. It shares nothing with SevenRounds, so that one checks the other.
 */
final class Model {
    static final int NONE = -6, UNKNOWN = -1, OUTSIDE = -2, STATE = -3, FULL = -4, NO = -5;

    private static final class World {
        int[] firm = new int[12];
        int[] tone = new int[12];
        boolean[] thread = new boolean[12];
        int held;
        int masons;
        int round;
        int[] need = new int[8];
        List<int[]> sights = new ArrayList<>();

        World() {
            Arrays.fill(firm, 10);
            Arrays.fill(need, 8);
        }

        World copy() {
            World w = new World();
            w.firm = firm.clone();
            w.tone = tone.clone();
            w.thread = thread.clone();
            w.held = held;
            w.masons = masons;
            w.round = round;
            w.need = need.clone();
            w.sights = new ArrayList<>(sights);
            return w;
        }

        void less(int part, int by) {
            boolean was = firm[part] == 0;
            firm[part] = firm[part] - by;
            if (firm[part] < 0) {
                firm[part] = 0;
            }
            if (thread[part] && !was && firm[part] == 0) {
                firm[part] = 1;
            }
        }

        void horns(int horn) {
            for (int p = 0; p < 12; p++) {
                if (tone[p] == horn) {
                    less(p, 2);
                } else if (tone[p] == horn - 1 || tone[p] == horn + 1) {
                    less(p, 1);
                }
            }
        }

        void shout() {
            for (int p = 0; p < 12; p++) {
                less(p, held);
            }
            held = 0;
        }

        void night() {
            List<Integer> those = new ArrayList<>();
            for (int p = 0; p < 12; p++) {
                if (firm[p] != 0 && firm[p] <= 98) {
                    those.add(p);
                }
            }
            those.sort((a, b) -> firm[a] != firm[b] ? firm[a] - firm[b] : a - b);
            for (int p : those.subList(0, Math.min(masons, those.size()))) {
                firm[p]++;
            }
        }

        int why(String act) {
            if (act.equals(".") || act.startsWith("h")) {
                return round == 99 ? 1 : 0;
            }
            if (act.equals("!")) {
                return held == 0 ? 2 : 0;
            }
            return masons == 0 ? 3 : 0;
        }

        void act(String act) {
            if (act.equals(".")) {
                held = held == 99 ? 99 : held + 1;
                round++;
            } else if (act.startsWith("h")) {
                horns(act.charAt(1) - '0');
                round++;
            } else if (act.equals("!")) {
                shout();
            } else {
                night();
            }
        }

        int down() {
            int bits = 0;
            for (int p = 11; p >= 0; p--) {
                bits = 2 * bits + (firm[p] == 0 ? 1 : 0);
            }
            return bits;
        }

        boolean stretchIsDown(int g) {
            for (int first = 0; first < 12; first++) {
                int n = 0;
                while (n < g && firm[(first + n) % 12] == 0) {
                    n++;
                }
                if (n == g) {
                    return true;
                }
            }
            return false;
        }
    }

    private World world = new World();
    private final World[] kept = new World[2];
    private String pad = "";

    int part(int part, int firm, int tone) {
        if (part < 0 || part > 11) {
            return UNKNOWN;
        }
        if (firm < 0 || firm > 99 || tone < 0 || tone > 9) {
            return OUTSIDE;
        }
        int was = world.firm[part];
        world.firm[part] = firm;
        world.tone[part] = tone;
        return was;
    }

    int thread(int part, boolean is) {
        if (part < 0 || part > 11) {
            return UNKNOWN;
        }
        world.thread[part] = is;
        int n = 0;
        for (boolean one : world.thread) {
            n += one ? 1 : 0;
        }
        return n;
    }

    int set(int which, int v) {
        if (which < 0 || which > 2 || v < 0 || v > (which == 1 ? 12 : 99)) {
            return OUTSIDE;
        }
        int was = which == 0 ? world.held : which == 1 ? world.masons : world.round;
        if (which == 0) {
            world.held = v;
        } else if (which == 1) {
            world.masons = v;
        } else {
            world.round = v;
        }
        return was;
    }

    int man(int man, int need) {
        if (man < 0 || man > 7) {
            return UNKNOWN;
        }
        if (need < 0 || need > 8) {
            return OUTSIDE;
        }
        int was = world.need[man];
        world.need[man] = need;
        return was;
    }

    int say(int sign) {
        if (sign < 33 || sign > 126) {
            return OUTSIDE;
        }
        if (pad.length() == 60) {
            return FULL;
        }
        pad += (char) sign;
        return pad.length();
    }

    int wipe() {
        int was = pad.length();
        pad = "";
        return was;
    }

    int fault() {
        String act = "([.!n]|h[0-9])";
        if (pad.matches(act + "*")) {
            return NONE;
        }
        // the longest beginning that some rounds begin with
        int good = 0;
        for (int n = 0; n <= pad.length(); n++) {
            if (pad.substring(0, n).matches(act + "*h?")) {
                good = n;
            }
        }
        return good;
    }

    private List<String> acts() {
        List<String> acts = new ArrayList<>();
        for (int i = 0; i < pad.length(); i++) {
            if (pad.charAt(i) == 'h') {
                acts.add(pad.substring(i, i + 2));
                i++;
            } else {
                acts.add(pad.substring(i, i + 1));
            }
        }
        return acts;
    }

    int judge(int what) {
        if (what < 0 || what > 1) {
            return OUTSIDE;
        }
        if (fault() != NONE) {
            return NO;
        }
        World w = world.copy();
        List<String> acts = acts();
        for (int i = 0; i < acts.size(); i++) {
            if (w.why(acts.get(i)) != 0) {
                return what == 0 ? i : w.why(acts.get(i));
            }
            w.act(acts.get(i));
        }
        return NONE;
    }

    /** The world behind the first n acts; null if it can not be. */
    private World after(int n) {
        World w = world.copy();
        for (String act : acts().subList(0, n)) {
            w.act(act);
        }
        return w;
    }

    private boolean canBe() {
        return fault() == NONE && judge(0) == NONE;
    }

    int done() {
        if (!canBe()) {
            return NO;
        }
        int n = acts().size();
        world = after(n);
        pad = "";
        return n;
    }

    int behind(int part) {
        if (part < 0 || part > 11) {
            return UNKNOWN;
        }
        return canBe() ? after(acts().size()).firm[part] : NO;
    }

    int then(int what) {
        if (what < 0 || what > 2) {
            return OUTSIDE;
        }
        if (!canBe()) {
            return NO;
        }
        World w = after(acts().size());
        return what == 0 ? w.down() : what == 1 ? w.held : w.round;
    }

    int fell(int what) {
        if (what < 0 || what > 1) {
            return OUTSIDE;
        }
        if (!canBe()) {
            return NO;
        }
        int n = acts().size();
        for (int i = 0; i < n; i++) {
            World before = after(i);
            World behind = after(i + 1);
            for (int p = 0; p < 12; p++) {
                if (before.firm[p] != 0 && behind.firm[p] == 0) {
                    return what == 0 ? i : p;
                }
            }
        }
        return NONE;
    }

    int down() {
        return world.down();
    }

    int shout(int g) {
        if (g < 1 || g > 12) {
            return OUTSIDE;
        }
        for (int rounds = 0; rounds <= 99; rounds++) {
            World w = world.copy();
            w.held = Math.min(99, w.held + rounds);
            if (w.held > 0) {
                w.shout();
            }
            if (w.stretchIsDown(g)) {
                return rounds;
            }
        }
        return NONE;
    }

    int horns(int k, int what) {
        if (k < 0 || k > 3 || what < 0 || what > 1) {
            return OUTSIDE;
        }
        int most = -1;
        int tones = -1;
        int numbers = k == 0 ? 1 : k == 1 ? 10 : k == 2 ? 100 : 1000;
        for (int number = numbers - 1; number >= 0; number--) {
            World w = world.copy();
            if (k == 3) {
                w.horns(number / 100);
            }
            if (k >= 2) {
                w.horns(number / 10 % 10);
            }
            if (k >= 1) {
                w.horns(number % 10);
            }
            int n = Integer.bitCount(w.down());
            if (n >= most) {
                most = n;
                tones = number;
            }
        }
        return what == 0 ? most : tones;
    }

    int weakest(int g, int what) {
        if (g < 1 || g > 12 || what < 0 || what > 1) {
            return OUTSIDE;
        }
        int best = 0;
        int least = Integer.MAX_VALUE;
        for (int first = 11; first >= 0; first--) {
            int sum = 0;
            for (int p = first; p < first + g; p++) {
                sum += world.firm[p < 12 ? p : p - 12];
            }
            if (sum <= least) {
                least = sum;
                best = first;
            }
        }
        return what == 0 ? best : least;
    }

    int watch(int set, int r, int what) {
        if (set < 0 || set > 4095 || r < 0 || r > 3 || what < 0 || what > 1) {
            return OUTSIDE;
        }
        for (int few = 0; few <= 12; few++) {
            for (int who = 0; who < 4096; who++) {
                if (Integer.bitCount(who) == few && allSeen(set, who, r)) {
                    return what == 0 ? few : who;
                }
            }
        }
        throw new IllegalStateException();
    }

    private static boolean allSeen(int set, int who, int r) {
        for (int p = 0; p < 12; p++) {
            boolean seen = (set & 1 << p) == 0;
            for (int q = 0; q < 12; q++) {
                int apart = Math.min(Math.floorMod(p - q, 12), Math.floorMod(q - p, 12));
                seen |= (who & 1 << q) != 0 && apart <= r;
            }
            if (!seen) {
                return false;
            }
        }
        return true;
    }

    private static int lessBy(int horn, int tone) {
        World w = new World();
        w.tone[0] = tone;
        w.horns(horn);
        return 10 - w.firm[0];
    }

    int seen(int tone, int less) {
        if (tone < 0 || tone > 9 || less < 0 || less > 2) {
            return OUTSIDE;
        }
        if (world.sights.size() == 8) {
            return FULL;
        }
        world.sights.add(new int[] {tone, less});
        return world.sights.size();
    }

    int forget() {
        int was = world.sights.size();
        world.sights.clear();
        return was;
    }

    private List<Integer> fitting() {
        List<Integer> those = new ArrayList<>();
        for (int tone = 0; tone < 10; tone++) {
            boolean fits = true;
            for (int[] sight : world.sights) {
                fits &= lessBy(sight[0], tone) == sight[1];
            }
            if (fits) {
                those.add(tone);
            }
        }
        return those;
    }

    int tones() {
        int bits = 0;
        for (int tone : fitting()) {
            bits |= 1 << tone;
        }
        return bits;
    }

    int next(int what) {
        if (what < 0 || what > 1) {
            return OUTSIDE;
        }
        if (fitting().isEmpty()) {
            return NONE;
        }
        int best = -1;
        int fewest = 11;
        for (int horn = 0; horn < 10; horn++) {
            int[] left = new int[3];
            for (int tone : fitting()) {
                left[lessBy(horn, tone)]++;
            }
            int most = Math.max(left[0], Math.max(left[1], left[2]));
            if (most < fewest) {
                fewest = most;
                best = horn;
            }
        }
        return what == 0 ? best : fewest;
    }

    private int speak(int set, int silent) {
        int who = set;
        boolean goesOn = true;
        while (goesOn) {
            goesOn = false;
            for (int man = 0; man < 8; man++) {
                int others = Integer.bitCount(who & ~(1 << man));
                boolean is = (who & 1 << man) != 0 || (silent & 1 << man) != 0;
                if (!is && others >= world.need[man]) {
                    who |= 1 << man;
                    goesOn = true;
                }
            }
        }
        return who;
    }

    int chain(int set) {
        return set < 0 || set > 255 ? UNKNOWN : speak(set, 0);
    }

    int quiet(int set, int v, int what) {
        if (set < 0 || set > 255) {
            return UNKNOWN;
        }
        if (v < 0 || v > 8 || what < 0 || what > 1) {
            return OUTSIDE;
        }
        for (int few = 0; few <= 8; few++) {
            for (int who = 0; who < 256; who++) {
                if (Integer.bitCount(who) == few && (who & set) == 0 && Integer.bitCount(speak(set, who)) <= v) {
                    return what == 0 ? few : who;
                }
            }
        }
        return NONE;
    }

    /** What is kept by waiting (0) or by opening (1), as a fraction over 10 to the power of w. */
    private static BigInteger keeps(int w, int t, boolean opening) {
        BigInteger scale = BigInteger.TEN.pow(w);
        if (w == 0) {
            return BigInteger.ZERO;
        }
        if (opening) {
            return scale.multiply(BigInteger.valueOf(10L * w));
        }
        BigInteger leaves = scale.multiply(BigInteger.valueOf(100L * t));
        BigInteger stays = best(w - 1, t).multiply(BigInteger.valueOf(10L * (10 - t)));
        return leaves.add(stays).divide(BigInteger.TEN);
    }

    private static BigInteger best(int w, int t) {
        return keeps(w, t, true).max(keeps(w, t, false));
    }

    long water(int w, int t, int what, int part) {
        if (w < 0 || w > 9 || t < 0 || t > 10 || what < 0 || what > 1 || part < 0 || part > 1) {
            return -1000000000000000000L - 2;
        }
        if (what == 1) {
            return keeps(w, t, true).compareTo(keeps(w, t, false)) >= 0 ? 1 : 0;
        }
        BigInteger lower = BigInteger.TEN.pow(w);
        BigInteger common = lower.gcd(best(w, t));
        return (part == 0 ? best(w, t) : lower).divide(common).longValueExact();
    }

    private static int lots(int men) {
        return men == 1 ? 0 : 1 + lots((men + 1) / 2);
    }

    int lots(int a, int b, int c, int what) {
        if (Math.min(a, Math.min(b, c)) < 1 || Math.max(a, Math.max(b, c)) > 20 || what < 0 || what > 1) {
            return OUTSIDE;
        }
        return what == 0 ? lots(a * b * c) : lots(a) + lots(b) + lots(c);
    }

    int day(int seed, int m, int what) {
        if (seed < 0 || seed > 9999 || m < 1 || m > 99 || what < 0 || what > 2) {
            return OUTSIDE;
        }
        World w = world.copy();
        long x = seed;
        for (int i = 0; i < m; i++) {
            x = (75 * x + 74) % 65537;
            String act = new String[] {".", ".", ".", ".", "h", "h", "!", "n"}[(int) (x % 8)];
            act = act.equals("h") ? act + x / 8 % 10 : act;
            if (w.why(act) == 0) {
                w.act(act);
            }
        }
        return what == 0 ? Integer.bitCount(w.down()) : what == 1 ? w.held : w.round;
    }

    int image(int n) {
        if (n < 0 || n > 1) {
            return OUTSIDE;
        }
        kept[n] = world.copy();
        return 1;
    }

    int restore(int n) {
        if (n < 0 || n > 1) {
            return OUTSIDE;
        }
        if (kept[n] == null) {
            return STATE;
        }
        world = kept[n].copy();
        return 1;
    }

    int told(int what) {
        int threads = 0;
        for (int p = 0; p < 12; p++) {
            threads += world.thread[p] ? 1 << p : 0;
        }
        int[] first = {pad.length(), world.round, world.held, world.masons, threads, world.sights.size()};
        if (what >= 0 && what < 6) {
            return first[what];
        }
        if (what >= 10 && what <= 21) {
            return world.firm[what - 10];
        }
        if (what >= 30 && what <= 41) {
            return world.tone[what - 30];
        }
        return what >= 50 && what <= 57 ? world.need[what - 50] : OUTSIDE;
    }
}
