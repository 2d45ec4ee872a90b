import java.util.ArrayDeque;
import java.util.ArrayList;
import java.util.Deque;
import java.util.List;

/**
 * The document written a second time, as plainly as can be and by other means than the class: tokens, whole states that
 * are cloned, and searches that look at everything and keep the least by a key.
 */
final class Model {
    static final int NONE = -1, UNKNOWN = -1000000001, OUTSIDE = -1000000002, NOT = -1000000003, FULL = -1000000004;

    /** What can be undone. */
    private static final class Now implements Cloneable {
        private int[] length = {};
        private boolean[] lives = {};
        private Integer[] copy = {};
        private Integer[] paid = {};
        private int seasons;

        Now twin() {
            Now twin = new Now();
            twin.length = length.clone();
            twin.lives = lives.clone();
            twin.copy = copy.clone();
            twin.paid = paid.clone();
            twin.seasons = seasons;
            return twin;
        }
    }

    private record Token(int letter, int place, int value, int figures) { }

    /** A fault on its way out of the reading. */
    private static final class Fault extends RuntimeException {
        private static final long serialVersionUID = 1L;
        private final int kind;
        private final int place;

        Fault(int kind, int place) {
            this.kind = kind;
            this.place = place;
        }
    }

    private String text = "";
    private int faultPlace = NONE;
    private List<int[]> limbs = new ArrayList<>();
    private List<int[]> contracts = new ArrayList<>();
    private List<int[]> rates = new ArrayList<>();
    private int[] heir = new int[6];
    private Now now = new Now();
    private final Deque<Now> undone = new ArrayDeque<>();
    private final Now[] images = new Now[2];
    private final long[] imageSeeds = new long[2];
    private final List<int[]> gots = new ArrayList<>();
    private final List<int[]> book = new ArrayList<>();
    private long seed;

    int feed(int letter) {
        if (letter < 0 || letter > 255) return OUTSIDE;
        if (text.length() == 250) return FULL;
        text += (char) letter;
        return text.length();
    }

    private static List<Token> tokens(String text) {
        List<Token> all = new ArrayList<>();
        int i = 0;
        while (i < text.length()) {
            int from = i;
            String figures = "";
            while (i < text.length() && text.charAt(i) >= '0' && text.charAt(i) <= '9') {
                figures += text.charAt(i++);
            }
            if (figures.isEmpty()) {
                if (text.charAt(i) != ' ') all.add(new Token(text.charAt(i), i, 0, 0));
                i++;
            } else {
                int value = figures.length() > 3 ? 1000000 : Integer.parseInt(figures);
                all.add(new Token('0', from, value, figures.length()));
            }
        }
        all.add(new Token(-1, text.length(), 0, 0));
        return all;
    }

    int port() {
        List<int[]> newLimbs = new ArrayList<>(), newContracts = new ArrayList<>(), newRates = new ArrayList<>();
        int[] newHeir = {-1, -1, -1, -1, -1, -1};
        String read = text;
        text = "";
        try {
            List<Token> all = tokens(read);
            for (int i = 0; all.get(i).letter != -1;) {
                Token word = all.get(i++);
                String form = word.letter == 'l' ? "LAAAA" : newLimbs.isEmpty() ? null
                        : word.letter == 'c' ? "TKN" : word.letter == 'r' ? "KJUU" : word.letter == 'h' ? "HJ" : null;
                if (form == null) throw new Fault(1, word.place);
                List<int[]> into = word.letter == 'l' ? newLimbs : word.letter == 'c' ? newContracts : newRates;
                if (word.letter != 'h' && into.size() == (word.letter == 'r' ? 8 : 6)) throw new Fault(3, word.place);
                int[] numbers = new int[form.length()];
                for (int j = 0; j < numbers.length; j++) {
                    numbers[j] = number(all.get(i++), form.charAt(j), newLimbs.size(), newHeir, numbers[0]);
                }
                if (all.get(i).letter != ';') throw new Fault(1, all.get(i).place);
                i++;
                if (word.letter == 'h') newHeir[numbers[0]] = numbers[1];
                else into.add(numbers);
            }
        } catch (Fault fault) {
            faultPlace = fault.place;
            return -10 - fault.kind;
        }
        faultPlace = NONE;
        limbs = newLimbs;
        contracts = newContracts;
        rates = newRates;
        heir = newHeir;
        now = new Now();
        now.length = limbs.stream().mapToInt(l -> l[0]).toArray();
        now.lives = new boolean[limbs.size()];
        java.util.Arrays.fill(now.lives, true);
        now.copy = new Integer[limbs.size()];
        now.paid = new Integer[contracts.size()];
        undone.clear();
        gots.clear();
        book.clear();
        images[0] = null;
        images[1] = null;
        return limbs.size();
    }

    private static int number(Token token, char kind, int limbs, int[] heir, int first) {
        if (token.figures == 0) throw new Fault(1, token.place);
        int least = "NU".indexOf(kind) >= 0 ? 1 : kind == 'L' ? 20 : 0;
        int most = switch (kind) {
            case 'L', 'T' -> 99;
            case 'A' -> 18;
            case 'N' -> 50;
            case 'U' -> 20;
            default -> limbs - 1;
        };
        if (token.figures > 3 || token.value < least || token.value > most) throw new Fault(2, token.place);
        if (kind == 'J' && token.value == first) throw new Fault(4, token.place);
        if (kind == 'H' && heir[token.value] != -1) throw new Fault(4, token.place);
        return token.value;
    }

    int fault() {
        return faultPlace;
    }

    int told(int what) {
        int living = 0, copied = 0, sum = 0, noughts = 0;
        for (int k = 0; k < limbs.size(); k++) {
            if (now.lives[k]) living += 1 << k;
            if (now.copy[k] != null) copied += 1 << k;
        }
        for (int c = 0; c < contracts.size(); c++) {
            if (now.paid[c] != null) sum += now.paid[c];
            if (now.paid[c] != null && now.paid[c] == 0) noughts += 1 << c;
        }
        int[] all = {limbs.size(), contracts.size(), rates.size(), text.length(), now.seasons, living, copied, sum,
            noughts, gots.size(), book.size(), undone.size()};
        return what < 0 || what >= all.length ? OUTSIDE : all[what];
    }

    private boolean isLimb(int k) {
        return k >= 0 && k < limbs.size();
    }

    private int own(int k, int t) {
        return Math.max(0, now.length[k] + limbs.get(k)[1 + t % 4] - 9);
    }

    private int measure(int k, int t, int steps) {
        if (now.copy[k] != null) return now.copy[k];
        if (now.lives[k]) return own(k, t);
        return heir[k] == -1 || steps == 6 ? 0 : measure(heir[k], t, steps + 1);
    }

    private int measure(int k, int t) {
        return measure(k, t, 0);
    }

    int limb(int k, int what) {
        if (!isLimb(k)) return UNKNOWN;
        if (what < 0 || what > 8) return OUTSIDE;
        int[] told = limbs.get(k);
        return new int[] {now.length[k], measure(k, now.seasons), heir[k], now.lives[k] ? 1 : 0,
            now.copy[k] == null ? NONE : now.copy[k], told[1], told[2], told[3], told[4]}[what];
    }

    int contract(int c, int what) {
        if (c < 0 || c >= contracts.size()) return UNKNOWN;
        if (what < 0 || what > 3) return OUTSIDE;
        return what < 3 ? contracts.get(c)[what] : now.paid[c] == null ? NONE : now.paid[c];
    }

    int rate(int r, int what) {
        if (r < 0 || r >= rates.size()) return UNKNOWN;
        return what < 0 || what > 3 ? OUTSIDE : rates.get(r)[what];
    }

    private void remember() {
        undone.addLast(now.twin());
        if (undone.size() > 20) undone.removeFirst();
    }

    private void pass() {
        for (int c = 0; c < contracts.size(); c++) {
            if (contracts.get(c)[0] == now.seasons) now.paid[c] = pay(c, now.seasons);
        }
        now.seasons++;
    }

    private int pay(int c, int t) {
        return contracts.get(c)[2] * measure(contracts.get(c)[1], t);
    }

    private int draw(int n) {
        seed = (seed * 1103515245L + 12345L) % (1L << 31);
        return (int) (seed / 65536 % n);
    }

    private int seasons(int n, boolean byDraws) {
        if (n < 1 || n > 40) return OUTSIDE;
        if (limbs.isEmpty()) return NOT;
        if (now.seasons > 9000) return FULL;
        remember();
        for (int i = 0; i < n; i++) {
            if (byDraws) {
                int fate = draw(6);
                int k = fate < 2 ? draw(limbs.size()) : 0;
                int by = fate == 0 ? draw(20) + 1 : fate == 1 ? -3 : 0;
                if (now.lives[k]) now.length[k] = Math.max(1, Math.min(140, now.length[k] + by));
            }
            pass();
        }
        return now.seasons;
    }

    int season(int n) {
        return seasons(n, false);
    }

    int drift(int n) {
        return seasons(n, true);
    }

    int gout(int k, int v) {
        if (!isLimb(k)) return UNKNOWN;
        if (v < 1 || v > 20) return OUTSIDE;
        if (!now.lives[k]) return NOT;
        remember();
        now.length[k] = Math.min(140, now.length[k] + v);
        return now.length[k];
    }

    int stub(int k) {
        if (!isLimb(k)) return UNKNOWN;
        if (!now.lives[k]) return NOT;
        remember();
        now.length[k] = Math.max(1, now.length[k] - 3);
        return now.length[k];
    }

    int dies(int k) {
        if (!isLimb(k)) return UNKNOWN;
        if (!now.lives[k]) return NOT;
        remember();
        now.lives[k] = false;
        return measure(k, now.seasons);
    }

    int copy(int k) {
        if (!isLimb(k)) return UNKNOWN;
        if (!now.lives[k]) return NOT;
        remember();
        now.copy[k] = own(k, now.seasons);
        return now.copy[k];
    }

    int undo() {
        if (undone.isEmpty()) return NOT;
        now = undone.removeLast();
        return undone.size();
    }

    int firstNought() {
        for (int t = now.seasons; t <= 99; t++) {
            for (int c = 0; c < contracts.size(); c++) {
                if (contracts.get(c)[0] == t && pay(c, t) == 0) return c;
            }
        }
        return NONE;
    }

    int means(int c, int t) {
        if (c < 0 || c >= contracts.size()) return UNKNOWN;
        return t < 0 || t > 99 ? OUTSIDE : pay(c, t);
    }

    /** Less: the first element that differs is less. */
    private static boolean isLess(List<Integer> a, List<Integer> b) {
        for (int i = 0; i < Math.min(a.size(), b.size()); i++) {
            if (!a.get(i).equals(b.get(i))) return a.get(i) < b.get(i);
        }
        return a.size() < b.size();
    }

    int basket(int k) {
        if (k != NONE && !isLimb(k)) return UNKNOWN;
        int[][] m = new int[limbs.size()][4];
        for (int j = 0; j < m.length; j++) {
            for (int t = 0; t < 4; t++) m[j][t] = measure(j, t);
        }
        List<Integer> best = null;
        int[] bestTimes = null;
        int[] times = new int[limbs.size()];
        for (long code = 1; code < Math.pow(5, times.length); code++) {
            long rest = code;
            int count = 0, total = 0;
            int[] sum = new int[4];
            boolean isFit = true;
            for (int j = 0; j < times.length; j++, rest /= 5) {
                times[j] = (int) (rest % 5);
                total += times[j];
                count += times[j] > 0 ? 1 : 0;
                isFit &= times[j] == 0 || now.lives[j] && now.copy[j] == null;
                for (int t = 0; t < 4; t++) sum[t] += times[j] * m[j][t];
            }
            if (!isFit || count > 3 || sum[0] != sum[1] || sum[0] != sum[2] || sum[0] != sum[3]) continue;
            List<Integer> key = new ArrayList<>(List.of(total, count));
            for (int j = 0; j < times.length; j++) {
                if (times[j] > 0) key.addAll(List.of(j, times[j]));
            }
            if (best == null || isLess(key, best)) {
                best = key;
                bestTimes = times.clone();
            }
        }
        return best == null ? NONE : k == NONE ? best.get(0) : bestTimes[k];
    }

    private List<Integer> firstRing() {
        for (int size = 2; size <= 4; size++) {
            for (int code = 0; code < Math.pow(rates.size(), size); code++) {
                List<Integer> row = new ArrayList<>();
                int rest = code;
                for (int i = 0; i < size; i++, rest /= rates.size()) row.add(0, rest % rates.size());
                if (isRing(row) && gains(row, -1)) return row;
            }
        }
        return List.of();
    }

    private boolean isRing(List<Integer> row) {
        int seen = 0;
        for (int i = 0; i < row.size(); i++) {
            int[] rate = rates.get(row.get(i));
            int[] next = rates.get(row.get((i + 1) % row.size()));
            if (rate[1] != next[0]) return false;
            seen |= 1 << rate[0];
        }
        return Integer.bitCount(seen) == row.size();
    }

    private boolean gains(List<Integer> row, int lessened) {
        long u = 1, v = 1;
        for (int r : row) {
            u *= rates.get(r)[2];
            v *= r == lessened ? Math.max(1, rates.get(r)[3] - 1) : rates.get(r)[3];
        }
        return v > u;
    }

    int ring(int i) {
        List<Integer> row = firstRing();
        if (row.isEmpty()) return NONE;
        return i == NONE ? row.size() : i < 0 || i >= row.size() ? NONE : row.get(i);
    }

    int mended() {
        return firstRing().stream().sorted().filter(r -> !gains(firstRing(), r)).findFirst().orElse(NONE);
    }

    int heirs(int k) {
        if (k != NONE && !isLimb(k)) return UNKNOWN;
        List<Integer> living = new ArrayList<>();
        for (int j = 0; j < limbs.size(); j++) {
            if (now.lives[j]) living.add(j);
        }
        if (living.size() < 2) return NONE;
        List<List<Integer>> ways = new ArrayList<>();
        allWays(living, new ArrayList<>(), ways);
        List<Integer> best = null;
        for (List<Integer> way : ways) {
            int sum = 0;
            for (int i = 0; i < way.size(); i++) {
                sum += Math.abs(now.length[living.get(i)] - now.length[way.get(i)]);
            }
            List<Integer> key = new ArrayList<>(way);
            key.add(0, sum);
            if (best == null || isLess(key, best)) best = key;
        }
        return k == NONE ? best.get(0) : now.lives[k] ? best.get(1 + living.indexOf(k)) : NONE;
    }

    private static void allWays(List<Integer> living, List<Integer> begun, List<List<Integer>> ways) {
        if (begun.size() == living.size()) {
            ways.add(new ArrayList<>(begun));
            return;
        }
        for (int j = living.size() - 1; j >= 0; j--) {
            if (!begun.contains(living.get(j)) && begun.size() != j) {
                begun.add(living.get(j));
                allWays(living, begun, ways);
                begun.remove(begun.size() - 1);
            }
        }
    }

    int reach(int k, int what) {
        if (!isLimb(k)) return UNKNOWN;
        if (what < 0 || what > 1) return OUTSIDE;
        int[] all = {measure(k, 0), measure(k, 1), measure(k, 2), measure(k, 3)};
        java.util.Arrays.sort(all);
        return all[what * 3];
    }

    int bestCopy(int k, int what) {
        if (!isLimb(k)) return UNKNOWN;
        if (what < 0 || what > 1) return OUTSIDE;
        if (!now.lives[k]) return NONE;
        int best = -1, least = Integer.MAX_VALUE;
        for (int s = 3; s >= 0; s--) {
            int sum = 0;
            for (int t = 0; t < 4; t++) sum += Math.abs(own(k, s) - own(k, t));
            if (sum <= least) {
                least = sum;
                best = s;
            }
        }
        return what == 0 ? best : least;
    }

    int nearest(int v) {
        if (v < 0 || v > 999) return OUTSIDE;
        int best = NONE;
        for (int k = limbs.size() - 1; k >= 0; k--) {
            if (best == NONE
                    || Math.abs(measure(k, now.seasons) - v) <= Math.abs(measure(best, now.seasons) - v)) best = k;
        }
        return best;
    }

    int odds(int k, int n, int q) {
        if (!isLimb(k)) return UNKNOWN;
        if (n < 0 || n > 60 || q < 0 || q > 100) return OUTSIDE;
        long p = Math.max(0, 100 - q - 2 * k), odds = 1000000000;
        while (n-- > 0) odds = odds * p / 100;
        return (int) odds;
    }

    int got(int n, int q) {
        if (n < 1 || n > 50 || q < 0 || q > 9999) return OUTSIDE;
        if (gots.size() == 8) return FULL;
        gots.add(new int[] {n, q});
        return gots.size();
    }

    int used() {
        int set = 0;
        for (int k = 0; k < limbs.size(); k++) {
            int m = measure(k, now.seasons);
            if (gots.stream().allMatch(g -> g[0] * m == g[1])) set |= 1 << k;
        }
        return set;
    }

    int bale() {
        int set = used();
        if (Integer.bitCount(set) < 2) return NONE;
        for (int ahead = 0; ahead < 4; ahead++) {
            java.util.Set<Integer> seen = new java.util.HashSet<>();
            for (int k = 0; k < limbs.size(); k++) {
                if ((set & 1 << k) != 0) seen.add(measure(k, now.seasons + ahead));
            }
            if (seen.size() == Integer.bitCount(set)) return ahead;
        }
        return NONE;
    }

    int write(int k, int measure) {
        if (!isLimb(k)) return UNKNOWN;
        if (measure < 0 || measure > 999) return OUTSIDE;
        if (book.size() == 15) return FULL;
        book.add(new int[] {k, measure});
        return book.size();
    }

    int tear() {
        int had = gots.size() + book.size();
        gots.clear();
        book.clear();
        return had;
    }

    int judge() {
        for (int i = 0; i < book.size(); i++) {
            if (measure(book.get(i)[0], now.seasons) != book.get(i)[1]) return i;
        }
        return NONE;
    }

    int seed(int v) {
        if (v < 0) return OUTSIDE;
        int before = (int) seed;
        seed = v;
        return before;
    }

    int keep(int i) {
        if (i != 0 && i != 1) return UNKNOWN;
        images[i] = now.twin();
        imageSeeds[i] = seed;
        undone.clear();
        return 1;
    }

    int goBack(int i) {
        if (i != 0 && i != 1) return UNKNOWN;
        if (images[i] == null) return NOT;
        now = images[i].twin();
        seed = imageSeeds[i];
        undone.clear();
        return 1;
    }
}
