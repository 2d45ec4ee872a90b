import java.util.Random;

/** Random runs of calls (the same ones each time), each answer held against the Model's. */
public final class ModelTest {
    private static final int RUNS = 3000, CALLS = 250;
    private static final Check CHECK = new Check();

    private final Random random;
    private final LimbMeasures x = new LimbMeasures();
    private final Model y = new Model();
    private final StringBuilder story = new StringBuilder();

    private ModelTest(long number) {
        random = new Random(number);
    }

    public static void main(String[] args) {
        for (int run = 0; run < RUNS; run++) {
            new ModelTest(run).go(run);
        }
        CHECK.end("ModelTest");
    }

    private void go(int run) {
        tellText();
        for (int i = 0; i < CALLS; i++) {
            int turn = random.nextInt(200);
            if (turn == 0) {
                tellText();
            } else if (turn < 90) {
                act(run);
            } else {
                ask(run);
            }
        }
        String seen = Check.view(x);
        CHECK.due("run " + run + ": nothing seen of " + story, seen.isEmpty() ? 1 : 0, 0);
    }

    private void same(int run, String call, int answer, int want) {
        CHECK.due("run " + run + ": " + call, answer, want);
    }

    private int any(int least, int most) {
        return least + random.nextInt(most - least + 1);
    }

    /** Mostly within the bounds, at times beside them or far off. */
    private int about(int least, int most) {
        int turn = random.nextInt(60);
        if (turn == 0) {
            return Check.FAR[random.nextInt(Check.FAR.length)];
        }
        return turn == 1 ? least - 1 : turn == 2 ? most + 1 : any(least, most);
    }

    private String randomText() {
        StringBuilder text = new StringBuilder();
        int limbs = any(1, 6);
        int wide = random.nextBoolean() ? 9 : any(0, 3);
        for (int k = 0; k < limbs; k++) {
            text.append('l').append(random.nextInt(3) == 0 ? any(20, 24) : any(20, 99));
            for (int s = 0; s < 4; s++) {
                text.append(' ').append(any(9 - wide, 9 + wide));
            }
            text.append(';');
        }
        for (int c = any(0, 6); c > 0; c--) {
            text.append('c').append(random.nextBoolean() ? any(0, 99) : any(0, 12)).append(' ')
                    .append(any(0, limbs - 1)).append(' ').append(any(1, 50)).append(';');
        }
        int most = random.nextBoolean() ? 20 : 3;
        for (int r = limbs < 2 ? 0 : any(0, 8); r > 0; r--) {
            int k = any(0, limbs - 1);
            text.append('r').append(k).append(' ').append((k + any(1, limbs - 1)) % limbs).append(' ')
                    .append(any(1, most)).append(' ').append(any(1, most)).append(';');
        }
        for (int k = 0; k < limbs && limbs > 1; k++) {
            if (random.nextInt(3) > 0) {
                text.append('h').append(k).append(' ').append((k + any(1, limbs - 1)) % limbs).append(';');
            }
        }
        return text.toString();
    }

    private String spoilt(String text) {
        StringBuilder spoilt = new StringBuilder(text);
        String letters = "lcrh;  0123456789xL\t-";
        for (int n = any(1, 2); n > 0 && spoilt.length() > 0; n--) {
            int place = random.nextInt(spoilt.length());
            char letter = letters.charAt(random.nextInt(letters.length()));
            switch (random.nextInt(4)) {
                case 0 -> spoilt.setCharAt(place, letter);
                case 1 -> spoilt.deleteCharAt(place);
                case 2 -> spoilt.insert(place, letter);
                default -> spoilt.setLength(place);
            }
        }
        return spoilt.toString();
    }

    private void tellText() {
        String text = randomText();
        for (int i = 0; random.nextInt(2) == 0 && i < 4; i++) {
            String bad = spoilt(text);
            tellOne(bad);
        }
        tellOne(text);
    }

    private void tellOne(String text) {
        story.append(" '").append(text).append("'");
        for (int i = 0; i < text.length(); i++) {
            same(-1, "feed", x.feed(text.charAt(i)), y.feed(text.charAt(i)));
        }
        same(-1, "told(3)", x.told(3), y.told(3));
        same(-1, "port() of '" + text + "'", x.port(), y.port());
        same(-1, "fault() of '" + text + "'", x.fault(), y.fault());
        same(-1, "told(0) of '" + text + "'", x.told(0), y.told(0));
    }

    private void act(int run) {
        int k = about(0, Math.max(0, y.told(0) - 1));
        switch (random.nextInt(24)) {
            case 0, 1 -> {
                int n = random.nextInt(4) == 0 ? about(1, 40) : 1;
                same(run, "season(" + n + ")", x.season(n), y.season(n));
            }
            case 2 -> {
                int n = about(1, 40);
                same(run, "drift(" + n + ")", x.drift(n), y.drift(n));
            }
            case 3, 4 -> {
                int v = about(1, 20);
                same(run, "gout(" + k + ", " + v + ")", x.gout(k, v), y.gout(k, v));
            }
            case 5, 6, 7, 8, 9 -> same(run, "stub(" + k + ")", x.stub(k), y.stub(k));
            case 10 -> same(run, "dies(" + k + ")", x.dies(k), y.dies(k));
            case 11 -> same(run, "copy(" + k + ")", x.copy(k), y.copy(k));
            case 12, 13, 14, 15, 16 -> same(run, "undo()", x.undo(), y.undo());
            case 17, 18 -> {
                int n = about(1, 50);
                int q = random.nextInt(8) == 0 ? about(0, 9999) : n * Math.max(0, y.limb(k, 1));
                same(run, "got(" + n + ", " + q + ")", x.got(n, q), y.got(n, q));
            }
            case 19, 20 -> {
                int m = random.nextInt(8) == 0 ? about(0, 999) : Math.max(0, y.limb(k, 1));
                same(run, "write(" + k + ", " + m + ")", x.write(k, m), y.write(k, m));
            }
            case 21 -> same(run, "tear()", x.tear(), y.tear());
            case 22 -> {
                int i = about(0, 1);
                same(run, "keep(" + i + ")", x.keep(i), y.keep(i));
            }
            default -> {
                int i = about(0, 1);
                int v = about(0, Integer.MAX_VALUE - 1);
                same(run, "goBack(" + i + ")", x.goBack(i), y.goBack(i));
                same(run, "seed(" + v + ")", x.seed(v), y.seed(v));
            }
        }
    }

    private void ask(int run) {
        int k = about(0, Math.max(0, y.told(0) - 1));
        int maybe = random.nextInt(3) == 0 ? Check.NONE : k;
        switch (random.nextInt(19)) {
            case 0, 1 -> {
                int what = about(0, 11);
                same(run, "told(" + what + ")", x.told(what), y.told(what));
            }
            case 2, 3 -> {
                int what = about(0, 8);
                same(run, "limb(" + k + ", " + what + ")", x.limb(k, what), y.limb(k, what));
            }
            case 4 -> {
                int what = about(0, 3);
                same(run, "contract(" + k + ", " + what + ")", x.contract(k, what), y.contract(k, what));
            }
            case 5 -> {
                int r = about(0, 7);
                int what = about(0, 3);
                same(run, "rate(" + r + ", " + what + ")", x.rate(r, what), y.rate(r, what));
            }
            case 6 -> same(run, "firstNought()", x.firstNought(), y.firstNought());
            case 7 -> {
                int t = about(0, 99);
                same(run, "means(" + k + ", " + t + ")", x.means(k, t), y.means(k, t));
            }
            case 8 -> {
                if (random.nextInt(4) == 0) {
                    same(run, "basket(" + maybe + ")" + story, x.basket(maybe), y.basket(maybe));
                }
            }
            case 9 -> {
                int i = about(-1, 4);
                same(run, "ring(" + i + ")" + story, x.ring(i), y.ring(i));
            }
            case 10 -> same(run, "mended()" + story, x.mended(), y.mended());
            case 11 -> same(run, "heirs(" + maybe + ")", x.heirs(maybe), y.heirs(maybe));
            case 12 -> {
                int what = about(0, 1);
                same(run, "reach(" + k + ", " + what + ")", x.reach(k, what), y.reach(k, what));
            }
            case 13 -> {
                int what = about(0, 1);
                same(run, "bestCopy(" + k + ", " + what + ")", x.bestCopy(k, what), y.bestCopy(k, what));
            }
            case 14 -> {
                int v = random.nextBoolean() ? about(0, 999) : about(0, 120);
                same(run, "nearest(" + v + ")", x.nearest(v), y.nearest(v));
            }
            case 15 -> {
                int n = about(0, 60);
                int q = about(0, 100);
                same(run, "odds(" + k + ", " + n + ", " + q + ")", x.odds(k, n, q), y.odds(k, n, q));
            }
            case 16 -> same(run, "used()", x.used(), y.used());
            case 17 -> same(run, "bale()", x.bale(), y.bale());
            default -> same(run, "judge()", x.judge(), y.judge());
        }
    }
}
