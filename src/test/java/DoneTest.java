/** Promises 9 to 15: seasons, gout, stubs, deaths, copies, drift, undone. */
public final class DoneTest {
    private static final Check CHECK = new Check();
    private static final String PORT = "l30 9 11 9 7;l60 9 7 9 11;l40 10 10 10 10;l25 0 18 9 9;c1 0 5;c1 3 2;c4 2 9;"
            + "h0 1;h3 2;h2 3;";

    public static void main(String[] args) {
        seasons();
        lateSeasons();
        gout();
        stub();
        dies();
        copy();
        drift();
        undo();
        undoKeepsTwenty();
        CHECK.end("DoneTest");
    }

    private static void due(String call, long answer, long want) {
        CHECK.due(call, answer, want);
    }

    private static void seasons() {
        LimbMeasures x = CHECK.toldBy(PORT);
        String before = Check.view(x);
        due("season(0)", x.season(0), Check.OUTSIDE);
        due("season(41)", x.season(41), Check.OUTSIDE);
        due("season(-1)", x.season(-1), Check.OUTSIDE);
        CHECK.unchanged("season", before, x);
        due("season(1)", x.season(1), 1);
        due("nothing paid in season 0", x.told(7), 0);
        due("season(1)", x.season(1), 2);
        due("contract 0 paid", x.contract(0, 3), 160);
        due("contract 1 paid", x.contract(1, 3), 68);
        due("paid together", x.told(7), 228);
        due("told(11)", x.told(11), 2);
        due("season(40)", x.season(40), 42);
        due("contract 2 paid by season 4", x.contract(2, 3), 369);
        due("paid together", x.told(7), 597);
        due("none nought", x.told(8), 0);
        due("empty season(1)", new LimbMeasures().season(1), Check.NOT);
        due("empty season(0)", new LimbMeasures().season(0), Check.OUTSIDE);
        noughts();
    }

    private static void noughts() {
        LimbMeasures x = CHECK.toldBy("l30 9 9 9 9;l40 9 9 9 9;c0 0 5;c0 1 5;c1 0 1;");
        x.dies(0);
        x.season(1);
        due("nought of season 0", x.told(8), 1);
        due("nought is paid 0", x.contract(0, 3), 0);
        x.season(1);
        due("noughts", x.told(8), 5);
        due("paid together", x.told(7), 200);
        x.undo();
        due("a nought undone", x.told(8), 1);
        due("its payment undone", x.contract(2, 3), Check.NONE);
    }

    private static void lateSeasons() {
        LimbMeasures x = CHECK.toldBy("l30 9 11 9 7;");
        for (int i = 1; i <= 225; i++) {
            due("season " + i, x.season(40), 40 * i);
        }
        due("told(4)", x.told(4), 9000);
        due("at 9000", x.season(1), 9001);
        String before = Check.view(x);
        due("above 9000", x.season(1), Check.FULL);
        due("above 9000 drift", x.drift(1), Check.FULL);
        due("above 9000 season(0)", x.season(0), Check.OUTSIDE);
        due("above 9000 drift(41)", x.drift(41), Check.OUTSIDE);
        CHECK.unchanged("season, drift above 9000", before, x);
        due("undo()", x.undo(), 19);
        due("drift(40) at 9000", x.drift(40), 9040);
    }

    private static void gout() {
        LimbMeasures x = CHECK.toldBy(PORT);
        x.dies(1);
        String before = Check.view(x);
        due("gout(4, 1)", x.gout(4, 1), Check.UNKNOWN);
        due("gout(4, 0)", x.gout(4, 0), Check.UNKNOWN);
        due("gout(-1, 1)", x.gout(-1, 1), Check.UNKNOWN);
        due("gout(0, 0)", x.gout(0, 0), Check.OUTSIDE);
        due("gout(0, 21)", x.gout(0, 21), Check.OUTSIDE);
        due("gout(1, 21)", x.gout(1, 21), Check.OUTSIDE);
        due("gout(1, 1)", x.gout(1, 1), Check.NOT);
        CHECK.unchanged("gout", before, x);
        due("gout(0, 1)", x.gout(0, 1), 31);
        due("gout(0, 20)", x.gout(0, 20), 51);
        due("measure", x.limb(0, 1), 51);
        for (int want = 71; want < 140; want += 20) {
            due("gout to " + want, x.gout(0, 20), want);
        }
        due("gout to the most", x.gout(0, 20), 140);
        due("gout at the most", x.gout(0, 20), 140);
        due("it can be undone all the same", x.told(11), 9);
    }

    private static void stub() {
        LimbMeasures x = CHECK.toldBy(PORT);
        x.dies(1);
        String before = Check.view(x);
        due("stub(4)", x.stub(4), Check.UNKNOWN);
        due("stub(-1)", x.stub(-1), Check.UNKNOWN);
        due("stub(1)", x.stub(1), Check.NOT);
        CHECK.unchanged("stub", before, x);
        for (int want = 22; want > 1; want -= 3) {
            due("stub to " + want, x.stub(3), want);
        }
        due("stub at the least", x.stub(3), 1);
        due("stub at the least", x.stub(3), 1);
        due("measure", x.limb(3, 1), 0);
        due("it can be undone all the same", x.told(11), 10);
        LimbMeasures y = CHECK.toldBy("l20 9 9 9 9;");
        for (int want = 17; want > 1; want -= 3) {
            due("stub to " + want, y.stub(0), want);
        }
        due("stub from 2", y.stub(0), 1);
    }

    private static void dies() {
        LimbMeasures x = CHECK.toldBy(PORT);
        due("dies(2): its heir's measure", x.dies(2), 16);
        due("who lives", x.told(5), 11);
        String before = Check.view(x);
        due("dies(2) again", x.dies(2), Check.NOT);
        due("dies(4)", x.dies(4), Check.UNKNOWN);
        due("dies(-1)", x.dies(-1), Check.UNKNOWN);
        CHECK.unchanged("dies", before, x);
        due("dies(3): a ring of heirs", x.dies(3), 0);
        due("dies(1): no heir", x.dies(1), 0);
        due("dies(0): a dead heir", x.dies(0), 0);
        due("who lives", x.told(5), 0);
        due("season goes on", x.season(5), 5);
        due("all are nought", x.told(8), 7);
    }

    private static void copy() {
        LimbMeasures x = CHECK.toldBy(PORT);
        due("copy(3)", x.copy(3), 16);
        due("told(6)", x.told(6), 8);
        x.season(1);
        due("its measure stays", x.limb(3, 1), 16);
        due("a new copy in place of it", x.copy(3), 34);
        due("limb(3, 4)", x.limb(3, 4), 34);
        x.gout(3, 20);
        due("whatever comes", x.limb(3, 1), 34);
        due("length is its own", x.limb(3, 0), 45);
        due("dies(3) with a copy", x.dies(3), 34);
        String before = Check.view(x);
        due("copy(3) of the dead", x.copy(3), Check.NOT);
        due("copy(4)", x.copy(4), Check.UNKNOWN);
        due("copy(-1)", x.copy(-1), Check.UNKNOWN);
        CHECK.unchanged("copy", before, x);
        due("paid by the copy", x.season(1), 2);
        due("contract(1, 3)", x.contract(1, 3), 68);
    }

    /** The draws are made here once more, apart from the class. */
    private static void drift() {
        LimbMeasures x = CHECK.toldBy(PORT);
        String before = Check.view(x);
        due("drift(0)", x.drift(0), Check.OUTSIDE);
        due("drift(41)", x.drift(41), Check.OUTSIDE);
        CHECK.unchanged("drift", before, x);
        due("empty drift(1)", new LimbMeasures().drift(1), Check.NOT);
        due("empty drift(0)", new LimbMeasures().drift(0), Check.OUTSIDE);
        int[] length = {30, 60, 40, 25};
        boolean[] lives = {true, false, true, true};
        x.dies(1);
        long seed = 4321;
        x.seed(4321);
        int seasons = 0;
        for (int call = 0; call < 10; call++) {
            int n = call * 4 + 1;
            for (int i = 0; i < n; i++) {
                seed = (seed * 1103515245L + 12345L) % 2147483648L;
                long fate = seed / 65536 % 6;
                if (fate > 1) {
                    continue;
                }
                seed = (seed * 1103515245L + 12345L) % 2147483648L;
                int k = (int) (seed / 65536 % 4);
                int by = -3;
                if (fate == 0) {
                    seed = (seed * 1103515245L + 12345L) % 2147483648L;
                    by = (int) (seed / 65536 % 20) + 1;
                }
                if (lives[k]) {
                    length[k] = Math.min(140, Math.max(1, length[k] + by));
                }
            }
            seasons += n;
            due("drift(" + n + ")", x.drift(n), seasons);
            for (int k = 0; k < 4; k++) {
                due("length of " + k + " after " + seasons, x.limb(k, 0), length[k]);
            }
        }
        due("told(11): each drift is one", x.told(11), 11);
        due("contracts are paid by drift", x.contract(2, 3) > 0 ? 1 : 0, 1);
        x.undo();
        due("seasons are undone", x.told(4), seasons - 37);
        due("the seed stays", x.seed(0), seed);
    }

    private static void undo() {
        LimbMeasures x = CHECK.toldBy(PORT);
        x.got(1, 30);
        x.write(0, 30);
        x.seed(77);
        String[] views = new String[7];
        views[0] = Check.view(x);
        x.season(3);
        views[1] = Check.view(x);
        x.gout(0, 5);
        views[2] = Check.view(x);
        x.stub(2);
        views[3] = Check.view(x);
        x.copy(3);
        views[4] = Check.view(x);
        x.dies(3);
        views[5] = Check.view(x);
        x.season(40);
        views[6] = Check.view(x);
        x.gout(3, 1);
        x.gout(0, 0);
        CHECK.unchanged("gout of the dead", views[6], x);
        for (int i = 5; i >= 0; i--) {
            due("undo() to " + i, x.undo(), i);
            CHECK.unchanged("undo, to " + i, views[i], x);
        }
        due("undo() of none", x.undo(), Check.NOT);
        CHECK.unchanged("undo of none", views[0], x);
    }

    private static void undoKeepsTwenty() {
        LimbMeasures x = CHECK.toldBy("l50 9 9 9 9;");
        for (int i = 1; i <= 25; i++) {
            due("gout " + i, x.gout(0, 1), 50 + i);
            due("told(11) " + i, x.told(11), Math.min(20, i));
        }
        for (int i = 19; i >= 0; i--) {
            due("undo() to " + i, x.undo(), i);
            due("length", x.limb(0, 0), 55 + i);
        }
        due("the oldest are lost", x.undo(), Check.NOT);
        due("length", x.limb(0, 0), 55);
        due("gout again", x.gout(0, 2), 57);
        due("undo()", x.undo(), 0);
        due("length", x.limb(0, 0), 55);
    }
}
