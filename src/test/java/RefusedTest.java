import java.util.Random;

/** Arguments of every kind in many states: nothing is thrown, and what is refused changes nothing that can be seen. */
public final class RefusedTest {
    private static final Check CHECK = new Check();
    private static final int[] EDGES = {Integer.MIN_VALUE, Integer.MIN_VALUE + 1, -1000000004, -1000000001, -65536, -10,
        -2, -1, 0, 1, 2, 3, 4, 5, 6, 7, 8, 9, 11, 12, 15, 19, 20, 21, 31, 32, 40, 41, 50, 51, 60, 61, 99, 100, 101, 140,
        250, 251, 255, 256, 999, 1000, 9999, 10000, 65536, Integer.MAX_VALUE - 1, Integer.MAX_VALUE};
    private static final String[] TEXTS = {"", "l30 9 9 9 9;",
        "l30 9 11 9 7;l60 9 7 9 11;l40 10 10 10 10;l25 0 18 9 9;c1 0 5;c1 3 2;c4 2 9;r0 1 2 1;r1 2 1 2;r2 0 3 4;"
        + "h0 1;h3 2;h2 3;",
        "l20 0 0 0 0;l20 1 2 3 4;l99 18 18 0 0;l50 9 9 9 9;l51 8 8 8 8;l52 7 9 7 9;c0 0 1;c99 5 50;"
        + "r0 1 1 20;r1 0 1 20;r2 3 5 5;r3 2 5 6;h0 1;h1 2;h2 3;h3 4;h4 5;h5 0;"};

    public static void main(String[] args) {
        for (int run = 0; run < 400; run++) {
            Random random = new Random(run);
            LimbMeasures x = CHECK.toldBy(TEXTS[run % TEXTS.length]);
            String before = Check.view(x);
            for (int i = 0; i < 400; i++) {
                int call = random.nextInt(34);
                int a = edge(random);
                int b = edge(random);
                int c = edge(random);
                int answer = call(x, call, a, b, c);
                boolean isRefused = answer <= Check.UNKNOWN && answer >= Check.FULL;
                if (isRefused || call >= 18) {
                    CHECK.unchanged("call " + call + " by " + a + ", " + b + ", " + c, before, x);
                }
                before = Check.view(x);
            }
        }
        CHECK.end("RefusedTest");
    }

    private static int edge(Random random) {
        return random.nextInt(3) == 0 ? random.nextInt(7) : EDGES[random.nextInt(EDGES.length)];
    }

    /** Calls from 18 on only ask. */
    private static int call(LimbMeasures x, int call, int a, int b, int c) {
        return switch (call) {
            case 0 -> x.feed(a);
            case 1 -> a == 0 ? x.port() : x.feed(' ');
            case 2 -> x.season(a);
            case 3 -> x.gout(a, b);
            case 4 -> x.stub(a);
            case 5 -> b < 5 ? x.dies(a) : x.stub(a);
            case 6 -> x.copy(a);
            case 7 -> x.drift(a);
            case 8, 9 -> x.undo();
            case 10, 11 -> x.got(a, b);
            case 12, 13 -> x.write(a, b);
            case 14 -> a < 0 ? x.tear() : x.got(a, b);
            case 15 -> x.seed(a);
            case 16 -> x.keep(a);
            case 17 -> x.goBack(a);
            case 18 -> x.firstNought();
            case 19 -> x.means(a, b);
            case 20 -> x.basket(a);
            case 21 -> x.ring(a);
            case 22 -> x.mended();
            case 23 -> x.heirs(a);
            case 24 -> x.reach(a, b);
            case 25 -> x.bestCopy(a, b);
            case 26 -> x.nearest(a);
            case 27 -> x.odds(a, b, c);
            case 28 -> x.used() + x.bale() * 64;
            case 29 -> x.judge();
            case 30 -> x.told(a);
            case 31 -> x.limb(a, b);
            case 32 -> x.contract(a, b);
            default -> x.rate(a, b);
        };
    }
}
