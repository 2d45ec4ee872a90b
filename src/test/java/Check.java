/** Counts answers that are not as due; a test ends with end(), which fails the run if there was one. */
final class Check {
    static final int NONE = -1, UNKNOWN = -1000000001, OUTSIDE = -1000000002, NOT = -1000000003, FULL = -1000000004;
    static final int[] FAR = {Integer.MIN_VALUE, -1000000001, -2, 6, 7, 8, 100, 1000000, Integer.MAX_VALUE};

    private int answers;
    private int wrong;

    void due(String call, long answer, long want) {
        answers++;
        if (answer != want) {
            wrong++;
            System.out.println(call + " answered " + answer + ", due is " + want);
        }
    }

    /** A new object whose port is told by the text; the text must have no FAULT. */
    LimbMeasures toldBy(String text) {
        LimbMeasures x = new LimbMeasures();
        feedAll(x, text);
        int limbs = x.port();
        if (limbs < 0) {
            due("port() of '" + text + "'", limbs, 0);
        }
        return x;
    }

    static void feedAll(LimbMeasures x, String text) {
        for (int i = 0; i < text.length(); i++) {
            x.feed(text.charAt(i));
        }
    }

    /** Asks for all that can be seen, so that two states can be held against one another. */
    static String view(LimbMeasures x) {
        StringBuilder seen = new StringBuilder();
        seen.append("fault ").append(x.fault()).append(" told");
        for (int what = 0; what <= 11; what++) {
            seen.append(' ').append(x.told(what));
        }
        for (int k = 0; k < 6; k++) {
            seen.append(" limb");
            for (int what = 0; what <= 8; what++) {
                seen.append(' ').append(x.limb(k, what));
            }
            seen.append(' ').append(x.reach(k, 0)).append(' ').append(x.reach(k, 1));
            seen.append(" contract");
            for (int what = 0; what <= 3; what++) {
                seen.append(' ').append(x.contract(k, what));
            }
        }
        for (int r = 0; r < 8; r++) {
            seen.append(" rate");
            for (int what = 0; what <= 3; what++) {
                seen.append(' ').append(x.rate(r, what));
            }
        }
        seen.append(" used ").append(x.used()).append(" judge ").append(x.judge());
        int seed = x.seed(0);
        x.seed(seed);
        return seen.append(" seed ").append(seed).toString();
    }

    /** Holds views taken before and after a refused call against one another. */
    void unchanged(String call, String before, LimbMeasures x) {
        answers++;
        String after = view(x);
        if (!before.equals(after)) {
            wrong++;
            System.out.println(call + " was refused but changed\n  " + before + "\nto\n  " + after);
        }
    }

    void end(String name) {
        System.out.println(name + ": " + answers + " answers, " + wrong + " not as due");
        if (wrong != 0 || answers == 0) {
            System.exit(1);
        }
    }
}
