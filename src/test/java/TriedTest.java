/** Promises 16 to 25: all that is only tried. */
public final class TriedTest {
    private static final Check CHECK = new Check();
    private static final String FOUR = "l30 9 11 9 7;l60 9 7 9 11;l40 10 10 10 10;l25 0 18 9 9;";

    public static void main(String[] args) {
        firstNought();
        means();
        basket();
        basketOrder();
        ring();
        mended();
        heirs();
        reach();
        bestCopy();
        nearest();
        odds();
        CHECK.end("TriedTest");
    }

    private static void due(String call, long answer, long want) {
        CHECK.due(call, answer, want);
    }

    private static void firstNought() {
        LimbMeasures x = CHECK.toldBy("l30 9 9 9 9;l20 18 0 9 9;c9 0 1;c5 1 1;c5 1 2;c1 1 1;c4 1 1;");
        due("none", x.firstNought(), Check.NONE);
        for (int i = 0; i < 4; i++) {
            x.stub(1);
        }
        String before = Check.view(x);
        due("season 1 is short for limb 1", x.firstNought(), 3);
        CHECK.unchanged("firstNought", before, x);
        x.season(1);
        due("of this season", x.firstNought(), 3);
        x.season(1);
        due("of like seasons the first", x.firstNought(), 1);
        x.copy(1);
        due("a copy is safe", x.firstNought(), Check.NONE);
        x.dies(0);
        due("limb 0 died", x.firstNought(), 0);
        x.season(8);
        due("what is over is over", x.firstNought(), Check.NONE);
        LimbMeasures y = CHECK.toldBy("l30 9 9 9 9;c50 0 1;c99 0 1;c49 0 1;");
        y.dies(0);
        due("the earliest season", y.firstNought(), 2);
        due("empty", new LimbMeasures().firstNought(), Check.NONE);
    }

    private static void means() {
        LimbMeasures x = CHECK.toldBy(FOUR + "c1 0 5;c1 3 2;h3 2;");
        due("means(0, 0)", x.means(0, 0), 150);
        due("means(0, 1)", x.means(0, 1), 160);
        due("means(0, 99)", x.means(0, 99), 140);
        due("means(1, 4)", x.means(1, 4), 32);
        x.dies(3);
        due("means(1, 4) by the heir", x.means(1, 4), 82);
        x.season(3);
        due("means(0, 0) of a season that is over", x.means(0, 0), 150);
        due("means(0, -1)", x.means(0, -1), Check.OUTSIDE);
        due("means(0, 100)", x.means(0, 100), Check.OUTSIDE);
        due("means(2, 0)", x.means(2, 0), Check.UNKNOWN);
        due("means(2, 100)", x.means(2, 100), Check.UNKNOWN);
        due("means(-1, 0)", x.means(-1, 0), Check.UNKNOWN);
    }

    private static void baskets(String name, LimbMeasures x, int... want) {
        due(name + " basket(NONE)", x.basket(Check.NONE), want[0]);
        for (int k = 1; k < want.length; k++) {
            due(name + " basket(" + (k - 1) + ")", x.basket(k - 1), want[k]);
        }
        due(name + " basket beyond", x.basket(want.length - 1), Check.UNKNOWN);
        due(name + " basket(-2)", x.basket(-2), Check.UNKNOWN);
    }

    private static void basket() {
        LimbMeasures x = CHECK.toldBy(FOUR);
        baskets("a level limb", x, 1, 0, 0, 1, 0);
        x.copy(2);
        baskets("two that even out", x, 2, 1, 1, 0, 0);
        x.dies(1);
        baskets("none", x, -1, -1, -1, -1, -1);
        baskets("empty", new LimbMeasures(), -1);
        baskets("two and one", CHECK.toldBy("l30 9 10 8 9;l30 9 7 11 9;"), 3, 2, 1);
        baskets("four and one", CHECK.toldBy("l30 9 10 8 9;l30 9 5 13 9;"), 5, 4, 1);
        baskets("five and one", CHECK.toldBy("l30 9 10 8 9;l30 9 4 14 9;"), -1, -1, -1);
        baskets("three limbs", CHECK.toldBy("l30 9 10 9 9;l30 9 9 10 9;l30 9 8 8 9;"), 3, 1, 1, 1);
        baskets("four limbs are too many", CHECK.toldBy("l30 9 10 9 9;l30 9 9 10 9;l30 9 9 9 10;l30 9 8 8 8;"),
                -1, -1, -1, -1, -1);
        baskets("eleven in all", CHECK.toldBy("l30 9 12 9 9;l30 9 9 12 9;l30 9 5 5 9;"), 11, 4, 4, 3);
        baskets("six limbs", CHECK.toldBy("l30 0 1 0 0;l30 9 11 9 9;l30 0 0 1 0;l30 0 0 0 1;l30 0 3 0 5;l30 9 6 9 9;"),
                3, 1, 1, 0, 0, 0, 1);
        baskets("not by fours but by ones", CHECK.toldBy("l30 9 13 9 9;l30 9 9 13 9;l30 9 5 5 9;"), 3, 1, 1, 1);
        LimbMeasures y = CHECK.toldBy("l20 0 1 2 3;");
        for (int i = 0; i < 5; i++) {
            due("no level yet", y.basket(0), Check.NONE);
            y.stub(0);
        }
        baskets("nought in all seasons is alike", y, 1, 1);
        y.copy(0);
        baskets("with a copy it is none", y, -1, -1);
        LimbMeasures z = CHECK.toldBy("l30 9 10 8 9;l30 9 9 9 9;h0 1;");
        z.dies(0);
        baskets("the dead are none, their heirs are", z, 1, 0, 1);
    }

    private static void basketOrder() {
        baskets("the least limb", CHECK.toldBy("l20 9 9 9 10;l20 9 9 9 9;l20 9 9 9 9;"), 1, 0, 1, 0);
        baskets("fewest in all, then fewest limbs",
                CHECK.toldBy("l30 9 10 9 9;l30 9 9 10 9;l30 9 8 8 9;l30 9 7 9 9;"), 3, 2, 0, 0, 1);
        baskets("of two pairs the least limb", CHECK.toldBy("l30 9 10 9 9;l30 9 11 9 9;l30 9 7 9 9;l30 9 8 9 9;"),
                2, 1, 0, 0, 1);
        baskets("fewer times of the least limb first",
                CHECK.toldBy("l30 9 10 9 9;l30 9 7 9 9;l30 9 6 9 9;l30 9 13 9 9;l30 9 9 9 8;"), 3, 2, 1, 0, 0, 0);
        baskets("fewer times ahead of a lesser next limb",
                CHECK.toldBy("l30 9 9 11 9;l30 9 9 6 9;l30 9 9 5 9;"), 3, 2, 0, 1);
    }

    private static void rings(String name, LimbMeasures x, int... rates) {
        due(name + " ring(NONE)", x.ring(Check.NONE), rates.length == 0 ? Check.NONE : rates.length);
        for (int i = 0; i < 6; i++) {
            due(name + " ring(" + i + ")", x.ring(i), i < rates.length ? rates[i] : Check.NONE);
        }
        due(name + " ring(-2)", x.ring(-2), Check.NONE);
        due(name + " ring(least)", x.ring(Integer.MIN_VALUE), Check.NONE);
        due(name + " ring(most)", x.ring(Integer.MAX_VALUE), Check.NONE);
    }

    private static void ring() {
        rings("three", CHECK.toldBy(FOUR + "r0 1 2 1;r1 2 1 2;r2 0 3 4;r1 0 1 2;"), 0, 1, 2);
        rings("two ahead of three", CHECK.toldBy(FOUR + "r0 1 2 1;r1 2 1 2;r2 0 3 4;r1 0 1 3;"), 0, 3);
        rings("alike is no gain", CHECK.toldBy(FOUR + "r0 1 2 3;r1 0 3 2;"));
        rings("backward numbers", CHECK.toldBy(FOUR + "r2 0 1 1;r1 2 1 1;r0 1 1 2;"), 0, 2, 1);
        rings("four", CHECK.toldBy(FOUR + "r3 0 1 1;r2 3 1 1;r1 2 20 20;r0 1 1 2;"), 0, 3, 2, 1);
        String two = "l20 0 0 0 0;l20 0 0 0 0;";
        rings("of like ones by numbers", CHECK.toldBy(two + "r0 1 1 1;r0 1 1 2;r1 0 1 1;r1 0 1 2;"), 0, 3);
        rings("five are too many", CHECK.toldBy(FOUR + "l20 0 0 0 0;r0 1 1 2;r1 2 1 2;r2 3 1 2;r3 4 1 2;r4 0 1 2;"));
        rings("no limb twice", CHECK.toldBy(FOUR + "r0 1 1 3;r1 0 3 1;r0 2 1 1;r2 0 1 1;"));
        rings("rates that are no ring", CHECK.toldBy(FOUR + "r0 1 1 20;r1 2 1 20;r0 2 1 20;"));
        rings("no rates", CHECK.toldBy(FOUR));
        rings("empty", new LimbMeasures());
        rings("four of the greatest", CHECK.toldBy(FOUR + "r0 1 19 20;r1 2 20 20;r2 3 20 20;r3 0 20 20;"), 0, 1, 2, 3);
        rings("eight", CHECK.toldBy(FOUR + "r0 1 1 1;r1 2 1 1;r2 3 1 1;r3 0 1 1;r1 0 1 1;r2 0 1 1;r2 1 1 1;r3 2 1 2;"),
                2, 7);
        LimbMeasures x = CHECK.toldBy(FOUR + "r0 1 1 2;r1 0 1 1;");
        x.dies(0);
        rings("whoever lives", x, 0, 1);
    }

    private static void mended() {
        due("the least that does", CHECK.toldBy(FOUR + "r0 1 2 1;r1 2 1 2;r2 0 3 4;r1 0 1 2;").mended(), 1);
        due("by number, not by row", CHECK.toldBy(FOUR + "r2 0 1 1;r1 2 1 2;r0 1 1 1;").mended(), 1);
        due("a later one in the row with a lesser number",
                CHECK.toldBy(FOUR + "r0 1 1 1;r2 0 2 3;r1 2 3 3;").mended(), 1);
        due("1 at least", CHECK.toldBy(FOUR + "r0 1 1 1;r1 0 2 3;").mended(), 1);
        due("none does", CHECK.toldBy(FOUR + "r0 1 1 5;r1 0 1 5;").mended(), Check.NONE);
        due("2 less is not tried", CHECK.toldBy(FOUR + "r0 1 1 3;r1 0 1 1;").mended(), Check.NONE);
        due("no row", CHECK.toldBy(FOUR + "r0 1 1 1;r1 0 1 1;").mended(), Check.NONE);
        due("no rates", CHECK.toldBy(FOUR).mended(), Check.NONE);
        due("empty", new LimbMeasures().mended(), Check.NONE);
        due("alike is mended", CHECK.toldBy(FOUR + "r0 1 4 5;r1 0 1 1;").mended(), 0);
        due("that row alone", CHECK.toldBy(FOUR + "r0 1 1 2;r1 0 1 1;r0 2 1 9;r2 0 1 9;").mended(), 0);
    }

    private static void heirsDue(String name, LimbMeasures x, int... want) {
        due(name + " heirs(NONE)", x.heirs(Check.NONE), want[0]);
        for (int k = 1; k < want.length; k++) {
            due(name + " heirs(" + (k - 1) + ")", x.heirs(k - 1), want[k]);
        }
        due(name + " heirs beyond", x.heirs(want.length - 1), Check.UNKNOWN);
        due(name + " heirs(-2)", x.heirs(-2), Check.UNKNOWN);
    }

    private static void heirs() {
        LimbMeasures x = CHECK.toldBy(FOUR);
        heirsDue("four", x, 50, 3, 2, 1, 0);
        x.copy(0);
        x.season(1);
        heirsDue("by length, not by measure", x, 50, 3, 2, 1, 0);
        x.dies(2);
        heirsDue("three", x, 70, 1, 3, -1, 0);
        x.gout(0, 20);
        x.gout(0, 20);
        heirsDue("three, longer", x, 90, 1, 3, -1, 0);
        x.dies(0);
        heirsDue("two", x, 70, -1, 3, -1, 1);
        x.dies(1);
        heirsDue("one", x, -1, -1, -1, -1, -1);
        x.dies(3);
        heirsDue("none lives", x, -1, -1, -1, -1, -1);
        heirsDue("empty", new LimbMeasures(), -1);
        String limb = "l50 9 9 9 9;";
        heirsDue("all alike", CHECK.toldBy(limb + limb + limb + limb + limb + limb), 0, 1, 0, 3, 2, 5, 4);
        heirsDue("five alike", CHECK.toldBy(limb + limb + limb + limb + limb), 0, 1, 0, 3, 4, 2);
        heirsDue("pairs", CHECK.toldBy("l20 0 0 0 0;l90 0 0 0 0;l50 0 0 0 0;l22 0 0 0 0;l52 0 0 0 0;l93 0 0 0 0;"),
                14, 3, 5, 4, 0, 2, 1);
    }

    private static void reach() {
        LimbMeasures x = CHECK.toldBy(FOUR + "h3 0;");
        due("reach(0, 0)", x.reach(0, 0), 28);
        due("reach(0, 1)", x.reach(0, 1), 32);
        due("reach(3, 0)", x.reach(3, 0), 16);
        due("reach(3, 1)", x.reach(3, 1), 34);
        x.season(1);
        x.dies(3);
        due("by the heir", x.reach(3, 0), 28);
        due("by the heir", x.reach(3, 1), 32);
        x.copy(0);
        due("by the heir's copy", x.reach(3, 0), 32);
        due("by the heir's copy", x.reach(3, 1), 32);
        x.dies(1);
        due("of none", x.reach(1, 1), 0);
        due("reach(0, 2)", x.reach(0, 2), Check.OUTSIDE);
        due("reach(0, -1)", x.reach(0, -1), Check.OUTSIDE);
        due("reach(4, 0)", x.reach(4, 0), Check.UNKNOWN);
        due("reach(4, 2)", x.reach(4, 2), Check.UNKNOWN);
        due("reach(-1, 0)", x.reach(-1, 0), Check.UNKNOWN);
    }

    private static void bestCopy() {
        LimbMeasures x = CHECK.toldBy(FOUR + "l30 0 4 5 18;l20 18 0 1 9;");
        due("of like ones the least", x.bestCopy(0, 0), 0);
        due("how much", x.bestCopy(0, 1), 4);
        due("all alike", x.bestCopy(2, 0), 0);
        due("all alike", x.bestCopy(2, 1), 0);
        due("bestCopy(3, 0)", x.bestCopy(3, 0), 2);
        due("bestCopy(3, 1)", x.bestCopy(3, 1), 18);
        due("bestCopy(4, 0)", x.bestCopy(4, 0), 1);
        due("bestCopy(4, 1)", x.bestCopy(4, 1), 19);
        due("bestCopy(5, 0)", x.bestCopy(5, 0), 2);
        due("bestCopy(5, 1)", x.bestCopy(5, 1), 26);
        x.copy(4);
        x.season(1);
        due("its own, whatever copy it has", x.bestCopy(4, 0), 1);
        x.dies(4);
        due("dead", x.bestCopy(4, 0), Check.NONE);
        due("dead", x.bestCopy(4, 1), Check.NONE);
        due("dead and outside", x.bestCopy(4, 2), Check.OUTSIDE);
        due("bestCopy(0, 2)", x.bestCopy(0, 2), Check.OUTSIDE);
        due("bestCopy(0, -1)", x.bestCopy(0, -1), Check.OUTSIDE);
        due("bestCopy(6, 0)", x.bestCopy(6, 0), Check.UNKNOWN);
        due("bestCopy(6, 2)", x.bestCopy(6, 2), Check.UNKNOWN);
        due("bestCopy(-1, 0)", x.bestCopy(-1, 0), Check.UNKNOWN);
    }

    private static void nearest() {
        LimbMeasures x = CHECK.toldBy(FOUR + "h2 3;");
        due("nearest(0)", x.nearest(0), 3);
        due("nearest(23): of like ones the least", x.nearest(23), 0);
        due("nearest(22)", x.nearest(22), 3);
        due("nearest(41)", x.nearest(41), 2);
        due("nearest(999)", x.nearest(999), 1);
        x.season(1);
        due("nearest(0) in season 1", x.nearest(0), 0);
        x.dies(1);
        due("the dead by nought", x.nearest(0), 1);
        x.dies(2);
        due("the dead by an heir", x.nearest(34), 2);
        due("nearest(-1)", x.nearest(-1), Check.OUTSIDE);
        due("nearest(1000)", x.nearest(1000), Check.OUTSIDE);
        due("empty", new LimbMeasures().nearest(0), Check.NONE);
        due("empty and outside", new LimbMeasures().nearest(1000), Check.OUTSIDE);
    }

    private static void odds() {
        LimbMeasures x = CHECK.toldBy(FOUR);
        due("odds(0, 0, 100)", x.odds(0, 0, 100), 1000000000);
        due("odds(0, 1, 100)", x.odds(0, 1, 100), 0);
        due("odds(0, 60, 0)", x.odds(0, 60, 0), 1000000000);
        due("odds(0, 1, 10)", x.odds(0, 1, 10), 900000000);
        due("odds(1, 1, 10)", x.odds(1, 1, 10), 880000000);
        due("odds(3, 2, 10)", x.odds(3, 2, 10), 705600000);
        due("odds(3, 1, 93)", x.odds(3, 1, 93), 10000000);
        due("odds(3, 1, 94)", x.odds(3, 1, 94), 0);
        due("odds(3, 1, 99)", x.odds(3, 1, 99), 0);
        due("cut each time", x.odds(1, 9, 31), cut(9, 67));
        due("cut each time", x.odds(0, 60, 1), cut(60, 99));
        x.dies(0);
        due("of the dead too", x.odds(0, 1, 10), 900000000);
        due("odds(0, -1, 0)", x.odds(0, -1, 0), Check.OUTSIDE);
        due("odds(0, 61, 0)", x.odds(0, 61, 0), Check.OUTSIDE);
        due("odds(0, 0, -1)", x.odds(0, 0, -1), Check.OUTSIDE);
        due("odds(0, 0, 101)", x.odds(0, 0, 101), Check.OUTSIDE);
        due("odds(4, 0, 0)", x.odds(4, 0, 0), Check.UNKNOWN);
        due("odds(4, 61, 0)", x.odds(4, 61, 0), Check.UNKNOWN);
        due("odds(-1, 0, 0)", x.odds(-1, 0, 0), Check.UNKNOWN);
    }

    private static long cut(int n, int spared) {
        long odds = 1000000000L;
        for (int i = 0; i < n; i++) {
            odds = odds * spared / 100;
        }
        return odds;
    }
}
