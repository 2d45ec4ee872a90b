/** Promises 26 to 34: what was got, THE BOOK, THE SEED, IMAGES. */
public final class GotTest {
    private static final Check CHECK = new Check();
    private static final String FOUR = "l30 9 11 9 7;l60 9 7 9 11;l40 10 10 10 10;l25 0 18 9 9;";

    public static void main(String[] args) {
        got();
        used();
        bale();
        write();
        tear();
        judge();
        seed();
        keepAndGoBack();
        CHECK.end("GotTest");
    }

    private static void due(String call, long answer, long want) {
        CHECK.due(call, answer, want);
    }

    private static void got() {
        LimbMeasures x = CHECK.toldBy(FOUR);
        String before = Check.view(x);
        due("got(0, 1)", x.got(0, 1), Check.OUTSIDE);
        due("got(51, 1)", x.got(51, 1), Check.OUTSIDE);
        due("got(1, -1)", x.got(1, -1), Check.OUTSIDE);
        due("got(1, 10000)", x.got(1, 10000), Check.OUTSIDE);
        CHECK.unchanged("got", before, x);
        due("got(1, 0)", x.got(1, 0), 1);
        due("got(50, 9999)", x.got(50, 9999), 2);
        for (int i = 3; i <= 8; i++) {
            due("got " + i, x.got(1, 1), i);
        }
        before = Check.view(x);
        due("a ninth", x.got(1, 1), Check.FULL);
        due("a ninth, outside", x.got(0, 1), Check.OUTSIDE);
        CHECK.unchanged("a ninth got", before, x);
        due("told(9)", x.told(9), 8);
        due("empty", new LimbMeasures().got(1, 1), 1);
    }

    private static void used() {
        LimbMeasures x = CHECK.toldBy(FOUR + "h3 0;");
        due("nothing got", x.used(), 15);
        x.got(2, 60);
        due("one fits", x.used(), 1);
        x.dies(3);
        due("two fit, one by its heir", x.used(), 9);
        x.got(3, 90);
        due("both fit", x.used(), 9);
        x.got(1, 31);
        due("none fits all", x.used(), 0);
        x.tear();
        x.got(2, 61);
        due("not by halves", x.used(), 0);
        x.tear();
        x.got(7, 0);
        due("nought", x.used(), 0);
        x.dies(1);
        due("the dead is nought", x.used(), 2);
        x.tear();
        x.got(1, 32);
        due("not now", x.used(), 0);
        x.season(1);
        due("in season 1", x.used(), 9);
    }

    private static void bale() {
        LimbMeasures x = CHECK.toldBy("l30 9 9 9 10;l30 9 9 11 9;l30 9 9 12 9;l40 9 9 9 9;");
        due("nothing got", x.bale(), 2);
        x.got(1, 30);
        due("three fit", x.used(), 7);
        due("two seasons ahead", x.bale(), 2);
        x.season(1);
        due("one season ahead", x.bale(), 1);
        x.season(1);
        due("one fits", x.bale(), Check.NONE);
        x.tear();
        due("all fit: this season", x.bale(), 0);
        x.season(1);
        due("all fit: three seasons ahead", x.bale(), 3);
        due("two limbs", CHECK.toldBy("l30 9 9 9 9;l30 9 9 9 8;").bale(), 3);
        due("one limb", CHECK.toldBy("l30 9 9 9 9;").bale(), Check.NONE);
        due("never unlike", CHECK.toldBy("l30 9 8 7 6;l30 9 8 7 6;").bale(), Check.NONE);
        due("two unlike are not all", CHECK.toldBy("l30 9 9 9 9;l30 9 9 9 9;l50 9 9 9 9;").bale(), Check.NONE);
        due("empty", new LimbMeasures().bale(), Check.NONE);
        LimbMeasures y = CHECK.toldBy("l30 9 9 9 9;l40 9 9 9 9;h0 1;");
        y.dies(0);
        due("by an heir for ever alike", y.bale(), Check.NONE);
    }

    private static void write() {
        LimbMeasures x = CHECK.toldBy(FOUR);
        String before = Check.view(x);
        due("write(4, 0)", x.write(4, 0), Check.UNKNOWN);
        due("write(4, 1000)", x.write(4, 1000), Check.UNKNOWN);
        due("write(-1, 0)", x.write(-1, 0), Check.UNKNOWN);
        due("write(0, -1)", x.write(0, -1), Check.OUTSIDE);
        due("write(0, 1000)", x.write(0, 1000), Check.OUTSIDE);
        CHECK.unchanged("write", before, x);
        due("write(0, 0)", x.write(0, 0), 1);
        due("write(0, 999)", x.write(0, 999), 2);
        for (int i = 3; i <= 15; i++) {
            due("write " + i, x.write(i % 4, 5), i);
        }
        before = Check.view(x);
        due("a sixteenth", x.write(0, 5), Check.FULL);
        due("a sixteenth, outside", x.write(0, 1000), Check.OUTSIDE);
        due("a sixteenth, unknown", x.write(4, 5), Check.UNKNOWN);
        CHECK.unchanged("a sixteenth entry", before, x);
        due("told(10)", x.told(10), 15);
    }

    private static void tear() {
        LimbMeasures x = CHECK.toldBy(FOUR);
        due("nothing", x.tear(), 0);
        x.got(1, 1);
        x.got(1, 2);
        x.write(0, 1);
        x.season(1);
        due("both", x.tear(), 3);
        due("told(9)", x.told(9), 0);
        due("told(10)", x.told(10), 0);
        due("told(11): it is not undone", x.told(11), 1);
        due("used()", x.used(), 15);
        due("judge()", x.judge(), Check.NONE);
        due("again", x.tear(), 0);
        due("got from the first", x.got(1, 1), 1);
        due("write from the first", x.write(1, 1), 1);
    }

    private static void judge() {
        LimbMeasures x = CHECK.toldBy(FOUR);
        due("empty book", x.judge(), Check.NONE);
        x.write(2, 41);
        x.write(0, 30);
        due("all right", x.judge(), Check.NONE);
        x.write(3, 17);
        x.write(3, 18);
        due("the first wrong", x.judge(), 2);
        x.season(1);
        due("the first wrong in season 1", x.judge(), 1);
        x.gout(2, 1);
        due("the first wrong with gout", x.judge(), 0);
        x.undo();
        due("undone, the book stays", x.judge(), 1);
    }

    private static void seed() {
        LimbMeasures x = CHECK.toldBy(FOUR);
        due("seed(7)", x.seed(7), 0);
        due("seed(-1)", x.seed(-1), Check.OUTSIDE);
        due("seed(least)", x.seed(Integer.MIN_VALUE), Check.OUTSIDE);
        due("seed(most)", x.seed(Integer.MAX_VALUE), 7);
        due("seed(0)", x.seed(0), Integer.MAX_VALUE);
        due("drift(1) from 0", x.drift(1), 1);
        due("the seed after one draw that is 0", x.seed(0) == 12345 ? 0 : 1, 1);
        x.undo();
        due("seed is set after undo", x.seed(3), 0);
        due("told(11): seed is not undone", x.told(11), 0);
    }

    private static void keepAndGoBack() {
        LimbMeasures x = CHECK.toldBy(FOUR + "c0 0 1;c2 1 2;h0 1;");
        String before = Check.view(x);
        for (int far : new int[] {-1, 2, Integer.MIN_VALUE, Integer.MAX_VALUE}) {
            due("keep(" + far + ")", x.keep(far), Check.UNKNOWN);
            due("goBack(" + far + ")", x.goBack(far), Check.UNKNOWN);
        }
        due("goBack(0) not kept", x.goBack(0), Check.NOT);
        CHECK.unchanged("keep, goBack", before, x);
        x.seed(5);
        x.season(1);
        due("keep(0)", x.keep(0), 1);
        due("nothing can be undone", x.told(11), 0);
        due("undo()", x.undo(), Check.NOT);
        String first = Check.view(x);
        x.drift(9);
        x.dies(0);
        x.copy(1);
        x.gout(2, 9);
        due("goBack(1) not kept", x.goBack(1), Check.NOT);
        due("four can be undone", x.told(11), 4);
        due("keep(1)", x.keep(1), 1);
        String second = Check.view(x);
        x.stub(1);
        due("goBack(0)", x.goBack(0), 1);
        CHECK.unchanged("goBack(0)", first, x);
        x.season(30);
        due("goBack(1)", x.goBack(1), 1);
        CHECK.unchanged("goBack(1)", second, x);
        x.got(1, 5);
        x.write(0, 5);
        x.season(1);
        due("goBack(0) again", x.goBack(0), 1);
        due("got stays", x.told(9), 1);
        due("the book stays", x.told(10), 1);
        due("nothing can be undone", x.told(11), 0);
        x.tear();
        CHECK.unchanged("goBack(0) again", first, x);
        x.season(3);
        due("keep(0) in place of the older", x.keep(0), 1);
        x.season(1);
        x.goBack(0);
        due("seasons of the newer", x.told(4), 4);
        emptyImages();
    }

    private static void emptyImages() {
        LimbMeasures x = new LimbMeasures();
        x.seed(12);
        due("keep(1) without limbs", x.keep(1), 1);
        x.seed(13);
        due("goBack(1) without limbs", x.goBack(1), 1);
        due("its seed", x.seed(0), 12);
        Check.feedAll(x, FOUR);
        x.port();
        due("a port has no images of another", x.goBack(1), Check.NOT);
    }
}
