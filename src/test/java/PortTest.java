/** Promises 1 to 8: a new object, the text and its FAULTS, what the port tells. */
public final class PortTest {
    private static final Check CHECK = new Check();
    private static final String LIMB = "l20 0 0 0 0;";

    public static void main(String[] args) {
        newObject();
        feeding();
        portsAndFaults();
        portWithFaultKeepsAll();
        portBeginsAnew();
        tellings();
        limbs();
        contractsAndRates();
        CHECK.end("PortTest");
    }

    private static void due(String call, long answer, long want) {
        CHECK.due(call, answer, want);
    }

    private static void newObject() {
        LimbMeasures x = new LimbMeasures();
        for (int what = 0; what <= 11; what++) {
            due("new told(" + what + ")", x.told(what), 0);
        }
        due("new fault()", x.fault(), Check.NONE);
        due("new limb(0, 0)", x.limb(0, 0), Check.UNKNOWN);
        due("new contract(0, 0)", x.contract(0, 0), Check.UNKNOWN);
        due("new rate(0, 0)", x.rate(0, 0), Check.UNKNOWN);
        due("new seed(5)", x.seed(5), 0);
        due("new goBack(0)", x.goBack(0), Check.NOT);
        due("new used()", x.used(), 0);
        due("new bale()", x.bale(), Check.NONE);
        due("new judge()", x.judge(), Check.NONE);
        due("new tear()", x.tear(), 0);
        due("new undo()", x.undo(), Check.NOT);
    }

    private static void feeding() {
        LimbMeasures x = new LimbMeasures();
        due("feed(-1)", x.feed(-1), Check.OUTSIDE);
        due("feed(256)", x.feed(256), Check.OUTSIDE);
        due("told(3)", x.told(3), 0);
        due("feed(0)", x.feed(0), 1);
        due("feed(255)", x.feed(255), 2);
        for (int i = 3; i <= 250; i++) {
            due("feed " + i, x.feed(' '), i);
        }
        due("feed 251", x.feed(' '), Check.FULL);
        due("feed(256) when full", x.feed(256), Check.OUTSIDE);
        due("told(3) full", x.told(3), 250);
        due("port of a zero letter", x.port(), -11);
        due("its fault", x.fault(), 0);
        due("told(3) after", x.told(3), 0);
    }

    /** want: LIMBS, or -10 less the FAULT; place: where. */
    private static void read(String text, int want, int place) {
        LimbMeasures x = new LimbMeasures();
        Check.feedAll(x, text);
        due("port() of '" + text + "'", x.port(), want);
        due("fault() of '" + text + "'", x.fault(), place);
        due("told(3) after '" + text + "'", x.told(3), 0);
        due("told(0) after '" + text + "'", x.told(0), Math.max(0, want));
    }

    private static void portsAndFaults() {
        read("", 0, -1);
        read("   ", 0, -1);
        read(LIMB, 1, -1);
        read("  l 20  0 0 0 0 ;  ", 1, -1);
        read("l020 000 00 0 018;", 1, -1);
        read("l99 18 18 18 18;", 1, -1);
        // 1: what cannot stand there
        read("x", -11, 0);
        read(" c0 0 1;", -11, 1);
        read("r0 1 1 1;", -11, 0);
        read("h0 1;", -11, 0);
        read(";", -11, 0);
        read("5", -11, 0);
        read("L20 0 0 0 0;", -11, 0);
        read("l", -11, 1);
        read("l  ", -11, 3);
        read("l20", -11, 3);
        read("l20 0 0 0 0", -11, 11);
        read("l20 0 0 0 0  ", -11, 13);
        read("l20 0 0 0;", -11, 9);
        read("l20 0 0 0 0 0;", -11, 12);
        read("l20 0 0 0 0 1234;", -11, 12);
        read("l20 0 0 0 0l", -11, 11);
        read("ll20 0 0 0 0;", -11, 1);
        read("l-20 0 0 0 0;", -11, 1);
        read("l20\t0 0 0 0;", -11, 3);
        read(LIMB + LIMB + ";", -11, 24);
        read(LIMB + "x", -11, 12);
        read(LIMB + "c", -11, 13);
        read(LIMB + "c0 0;", -11, 16);
        read(LIMB + "h0;", -11, 14);
        read(LIMB + LIMB + "h0 1 1;", -11, 29);
        read(LIMB + LIMB + "r0 1 1;", -11, 30);
        // 2: numbers
        read("l19 0 0 0 0;", -12, 1);
        read("l100 0 0 0 0;", -12, 1);
        read("l0020 0 0 0 0;", -12, 1);
        read("l2000000000000000000000000 0", -12, 1);
        read("l19x", -12, 1);
        read("l20 19 0 0 0;", -12, 4);
        read("l20 0 19 0 0;", -12, 6);
        read("l20 0 0 19 0;", -12, 8);
        read("l20 0 0 0 19;", -12, 10);
        read("l20 0 0 0 00000;", -12, 10);
        read(LIMB + "c100 0 1;", -12, 13);
        read(LIMB + "c0 1 1;", -12, 15);
        read(LIMB + "c0 0 0;", -12, 17);
        read(LIMB + "c0 0 51;", -12, 17);
        read(LIMB + "r1 0 1 1;", -12, 13);
        read(LIMB + "r0 1 1 1;", -12, 15);
        read(LIMB + LIMB + "r0 1 0 1;", -12, 29);
        read(LIMB + LIMB + "r0 1 21 1;", -12, 29);
        read(LIMB + LIMB + "r0 1 1 0;", -12, 31);
        read(LIMB + LIMB + "r0 1 1 21;", -12, 31);
        read(LIMB + "h1 0;", -12, 13);
        read(LIMB + "h0 1;" + LIMB, -12, 15);
        read(LIMB + LIMB + "h0 1;r1 0 20 20;c99 1 50;c0 0 1;", 2, -1);
        read(LIMB + "c5 0 3;" + LIMB + "h1 0;", 2, -1);
        tooMany();
        alike();
    }

    private static void tooMany() {
        String six = LIMB + LIMB + LIMB + LIMB + LIMB + LIMB;
        read(six, 6, -1);
        read(six + "l", -13, 72);
        read(six + " l999", -13, 73);
        String contracts = "c0 0 1;c0 0 1;c0 0 1;c0 0 1;c0 0 1;c0 0 1;";
        read(LIMB + contracts, 1, -1);
        read(LIMB + contracts + "c", -13, 54);
        String rates = "r0 1 1 1;r0 1 1 1;r0 1 1 1;r0 1 1 1;r0 1 1 1;r0 1 1 1;r0 1 1 1;r0 1 1 1;";
        read(LIMB + LIMB + rates, 2, -1);
        read(LIMB + LIMB + rates + "r0 0", -13, 96);
    }

    private static void alike() {
        read(LIMB + "r0 0 1 1;", -14, 15);
        read(LIMB + "r0  0 0 0;", -14, 16);
        read(LIMB + "h0 0;", -14, 15);
        read(LIMB + LIMB + "h0 1;h0 1;", -14, 30);
        read(LIMB + LIMB + "h0 1;h 0 0;", -14, 31);
        read(LIMB + LIMB + "h0 1;h1 0;", 2, -1);
        read(LIMB + LIMB + "h0 1;h1 1;", -14, 32);
    }

    private static LimbMeasures lived() {
        LimbMeasures x = CHECK.toldBy("l30 9 11 9 7;l60 9 7 9 11;c0 0 5;c3 1 2;r0 1 2 1;h0 1;");
        x.seed(99);
        x.season(1);
        x.gout(0, 3);
        x.keep(1);
        x.dies(1);
        x.copy(0);
        x.got(1, 35);
        x.write(0, 35);
        return x;
    }

    private static void portWithFaultKeepsAll() {
        LimbMeasures x = lived();
        String before = Check.view(x);
        x.feed('x');
        due("port() with a fault", x.port(), -11);
        due("fault()", x.fault(), 0);
        due("empty port() behind a fault changes", x.told(0), 2);
        due("view but for the fault", Check.view(x).equals(before.replace("fault -1", "fault 0")) ? 1 : 0, 1);
        due("goBack(1) behind a fault", x.goBack(1), 1);
        due("goBack(0) behind a fault", x.goBack(0), Check.NOT);
    }

    private static void portBeginsAnew() {
        LimbMeasures x = lived();
        Check.feedAll(x, "l40 9 9 9 9;c0 0 2;");
        due("port()", x.port(), 1);
        int[] want = {1, 1, 0, 0, 0, 1, 0, 0, 0, 0, 0, 0};
        for (int what = 0; what < want.length; what++) {
            due("told(" + what + ") of the new port", x.told(what), want[what]);
        }
        due("heir of the new port", x.limb(0, 2), Check.NONE);
        due("copy of the new port", x.limb(0, 4), Check.NONE);
        due("payment of the new port", x.contract(0, 3), Check.NONE);
        due("goBack(1) of the new port", x.goBack(1), Check.NOT);
        due("undo() of the new port", x.undo(), Check.NOT);
        due("seed stays", x.seed(1), 99);
        due("empty port()", x.port(), 0);
        due("told(0) of an empty port", x.told(0), 0);
        due("told(5) of an empty port", x.told(5), 0);
        due("fault() of an empty port", x.fault(), Check.NONE);
        x.feed('q');
        x.port();
        due("fault() of q", x.fault(), 0);
        x.port();
        due("fault() is of the latest port()", x.fault(), Check.NONE);
    }

    private static void tellings() {
        LimbMeasures x = lived();
        x.feed('l');
        int[] want = {2, 2, 1, 1, 1, 1, 1, 150, 0, 1, 1, 2};
        for (int what = 0; what < want.length; what++) {
            due("told(" + what + ")", x.told(what), want[what]);
        }
        due("told(-1)", x.told(-1), Check.OUTSIDE);
        due("told(12)", x.told(12), Check.OUTSIDE);
        due("told(least)", x.told(Integer.MIN_VALUE), Check.OUTSIDE);
        due("season to the nought", x.season(3), 4);
        due("told(8), limb 1 is dead without heir", x.told(8), 2);
        due("told(7)", x.told(7), 150);
        due("contract(1, 3)", x.contract(1, 3), 0);
    }

    private static void limbs() {
        LimbMeasures x = CHECK.toldBy("l30 0 18 9 7;l60 9 7 9 11;l25 9 9 9 9;h0 1;h1 0;");
        int[] want = {30, 21, 1, 1, -1, 0, 18, 9, 7};
        for (int what = 0; what < want.length; what++) {
            due("limb(0, " + what + ")", x.limb(0, what), want[what]);
        }
        due("limb(0, 9)", x.limb(0, 9), Check.OUTSIDE);
        due("limb(0, -1)", x.limb(0, -1), Check.OUTSIDE);
        due("limb(3, 0)", x.limb(3, 0), Check.UNKNOWN);
        due("limb(3, 9)", x.limb(3, 9), Check.UNKNOWN);
        due("limb(-1, 0)", x.limb(-1, 0), Check.UNKNOWN);
        due("limb(2, 2)", x.limb(2, 2), Check.NONE);
        x.season(1);
        due("measure in season 1", x.limb(0, 1), 39);
        x.season(2);
        due("measure in season 3", x.limb(0, 1), 28);
        x.season(2);
        due("measure in season 5", x.limb(0, 1), 39);
        x.gout(0, 4);
        due("dies(0)", x.dies(0), 58);
        due("length of the dead", x.limb(0, 0), 34);
        due("measure of the dead by its heir", x.limb(0, 1), 58);
        due("it lives not", x.limb(0, 3), 0);
        due("dies(1): a ring of heirs, all dead", x.dies(1), 0);
        due("measure of the first", x.limb(0, 1), 0);
        x.undo();
        due("copy(1)", x.copy(1), 58);
        due("limb(1, 4)", x.limb(1, 4), 58);
        due("dies(1) with a copy", x.dies(1), 58);
        x.season(2);
        due("heir's copy, another season", x.limb(0, 1), 58);
        longChain();
        leastMeasure();
    }

    private static void longChain() {
        LimbMeasures x = CHECK.toldBy(LIMB + LIMB + LIMB + LIMB + LIMB + "l77 9 9 9 9;h0 1;h1 2;h2 3;h3 4;h4 5;");
        for (int k = 4; k >= 0; k--) {
            due("dies(" + k + ") down the chain", x.dies(k), 77);
        }
        due("dies(5) at its end", x.dies(5), 0);
        due("measure of all", x.limb(0, 1), 0);
    }

    private static void leastMeasure() {
        LimbMeasures x = CHECK.toldBy("l20 0 1 9 18;");
        for (int i = 0; i < 6; i++) {
            x.stub(0);
        }
        due("length 2", x.limb(0, 0), 2);
        due("measure is 0 at least", x.limb(0, 1), 0);
        due("copy is 0 at least", x.copy(0), 0);
        due("limb(0, 4)", x.limb(0, 4), 0);
        due("a copy of 0 is a copy", x.told(6), 1);
        x.season(2);
        due("the copy of 0 is the measure", x.limb(0, 1), 0);
    }

    private static void contractsAndRates() {
        LimbMeasures x = CHECK.toldBy("l30 9 9 9 9;l60 9 7 9 11;c7 1 50;c0 0 4;r1 0 20 3;r0 1 2 19;");
        int[][] wanted = {{7, 1, 50, -1}, {0, 0, 4, -1}};
        int[][] rates = {{1, 0, 20, 3}, {0, 1, 2, 19}};
        for (int i = 0; i < 2; i++) {
            for (int what = 0; what < 4; what++) {
                due("contract(" + i + ", " + what + ")", x.contract(i, what), wanted[i][what]);
                due("rate(" + i + ", " + what + ")", x.rate(i, what), rates[i][what]);
            }
        }
        x.season(1);
        due("contract(1, 3) paid", x.contract(1, 3), 120);
        due("contract(0, 3) not yet", x.contract(0, 3), Check.NONE);
        due("contract(2, 0)", x.contract(2, 0), Check.UNKNOWN);
        due("contract(2, 4)", x.contract(2, 4), Check.UNKNOWN);
        due("contract(-1, 0)", x.contract(-1, 0), Check.UNKNOWN);
        due("contract(0, 4)", x.contract(0, 4), Check.OUTSIDE);
        due("contract(0, -1)", x.contract(0, -1), Check.OUTSIDE);
        due("rate(2, 0)", x.rate(2, 0), Check.UNKNOWN);
        due("rate(2, 4)", x.rate(2, 4), Check.UNKNOWN);
        due("rate(-1, 0)", x.rate(-1, 0), Check.UNKNOWN);
        due("rate(0, 4)", x.rate(0, 4), Check.OUTSIDE);
        due("rate(0, -1)", x.rate(0, -1), Check.OUTSIDE);
    }
}
