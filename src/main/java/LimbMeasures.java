/**
 * A port in which everything is sold by somebody's limb. The document (DOC.md) tells the words that are used here;
 * every row is made once, in a constructor, so that no call makes an object.
 */
public final class LimbMeasures {
    public static final int NONE = -1, UNKNOWN = -1000000001, OUTSIDE = -1000000002, NOT = -1000000003,
            FULL = -1000000004;

    private static final int MOST_LETTERS = 250, MOST_LIMBS = 6, MOST_CONTRACTS = 6, MOST_RATES = 8;
    private static final int MOST_GOT = 8, MOST_ENTRIES = 15, MOST_UNDONE = 20, MOST_IMAGES = 2;
    private static final int YEAR = 4, LAST_CONTRACT_SEASON = 99, MOST_AT_ONCE = 40, LAST_START = 9000;
    private static final int MOST_TIMES = 50, MOST_MEASURE = 999, MOST_AMOUNT = 9999, MOST_GOUT = 20;
    private static final int MOST_ODDS_SEASONS = 60, HUNDRED = 100;
    private static final long BILLION = 1000000000L;

    private final Reader reader = new Reader();
    private final Port town = new Port();
    private final State state = new State();
    private final Past past = new Past();
    private final Notes notes = new Notes();
    private final BasketSearch basketSearch = new BasketSearch();
    private final RingSearch ringSearch = new RingSearch();
    private final HeirSearch heirSearch = new HeirSearch();
    private int faultPlace;

    public LimbMeasures() {
        faultPlace = NONE;
    }

    // ---- the port

    public int feed(int letter) {
        if (letter < 0 || letter > 255) {
            return OUTSIDE;
        }
        if (reader.text.isFull()) {
            return FULL;
        }
        return reader.text.append(letter);
    }

    public int port() {
        reader.readText();
        reader.text.empty();
        faultPlace = reader.faultPlace;
        if (reader.faultKind != Reader.NO_FAULT) {
            return -10 - reader.faultKind;
        }
        town.takeOver(reader.draft);
        state.begin(town);
        notes.clearAll();
        past.forgetUndone();
        past.forgetImages();
        return town.limbs;
    }

    public int fault() {
        return faultPlace;
    }

    public int told(int what) {
        switch (what) {
            case 0: return town.limbs;
            case 1: return town.contracts;
            case 2: return town.rates;
            case 3: return reader.text.count;
            case 4: return state.seasons();
            case 5: return state.living();
            case 6: return state.copied();
            case 7: return state.paidTogether();
            case 8: return state.noughts();
            case 9: return notes.gots;
            case 10: return notes.entries;
            case 11: return past.undoable;
            default: return OUTSIDE;
        }
    }

    public int limb(int k, int what) {
        if (!town.hasLimb(k)) {
            return UNKNOWN;
        }
        switch (what) {
            case 0: return state.lengthOf(k);
            case 1: return state.measureNow(town, k);
            case 2: return town.heir[k];
            case 3: return state.lives(k) ? 1 : 0;
            case 4: return state.copyOf(k);
            case 5: case 6: case 7: case 8: return town.addedAsTold(k, what - 5);
            default: return OUTSIDE;
        }
    }

    public int contract(int c, int what) {
        if (!town.hasContract(c)) {
            return UNKNOWN;
        }
        switch (what) {
            case 0: return town.contractSeason[c];
            case 1: return town.contractLimb[c];
            case 2: return town.contractTimes[c];
            case 3: return state.paidOf(c);
            default: return OUTSIDE;
        }
    }

    public int rate(int r, int what) {
        if (!town.hasRate(r)) {
            return UNKNOWN;
        }
        switch (what) {
            case 0: return town.rateFrom[r];
            case 1: return town.rateTo[r];
            case 2: return town.rateGiven[r];
            case 3: return town.rateBack[r];
            default: return OUTSIDE;
        }
    }

    // ---- what is done

    public int season(int n) {
        int refusal = refusalOfSeasons(n);
        if (refusal != 0) {
            return refusal;
        }
        past.remember(state);
        for (int i = 0; i < n; i++) {
            state.passSeason(town);
        }
        return state.seasons();
    }

    public int gout(int k, int v) {
        if (!town.hasLimb(k)) {
            return UNKNOWN;
        }
        if (v < 1 || v > MOST_GOUT) {
            return OUTSIDE;
        }
        if (!state.lives(k)) {
            return NOT;
        }
        past.remember(state);
        state.swell(k, v);
        return state.lengthOf(k);
    }

    public int stub(int k) {
        int refusal = refusalOfLiving(k);
        if (refusal != 0) {
            return refusal;
        }
        past.remember(state);
        state.shorten(k);
        return state.lengthOf(k);
    }

    public int dies(int k) {
        int refusal = refusalOfLiving(k);
        if (refusal != 0) {
            return refusal;
        }
        past.remember(state);
        state.bury(k);
        return state.measureNow(town, k);
    }

    public int copy(int k) {
        int refusal = refusalOfLiving(k);
        if (refusal != 0) {
            return refusal;
        }
        past.remember(state);
        state.carve(town, k);
        return state.copyOf(k);
    }

    public int drift(int n) {
        int refusal = refusalOfSeasons(n);
        if (refusal != 0) {
            return refusal;
        }
        past.remember(state);
        for (int i = 0; i < n; i++) {
            state.sufferByDraws(town);
            state.passSeason(town);
        }
        return state.seasons();
    }

    public int undo() {
        if (past.undoable == 0) {
            return NOT;
        }
        past.restoreLatest(state);
        return past.undoable;
    }

    private int refusalOfSeasons(int n) {
        if (n < 1 || n > MOST_AT_ONCE) {
            return OUTSIDE;
        }
        if (town.limbs == 0) {
            return NOT;
        }
        return state.seasons() > LAST_START ? FULL : 0;
    }

    private int refusalOfLiving(int k) {
        if (!town.hasLimb(k)) {
            return UNKNOWN;
        }
        return state.lives(k) ? 0 : NOT;
    }

    // ---- tried

    public int firstNought() {
        int found = NONE;
        for (int c = 0; c < town.contracts; c++) {
            int at = town.contractSeason[c];
            boolean isSooner = found == NONE || at < town.contractSeason[found];
            if (at >= state.seasons() && isSooner && state.payment(town, c, at) == 0) {
                found = c;
            }
        }
        return found;
    }

    public int means(int c, int t) {
        if (!town.hasContract(c)) {
            return UNKNOWN;
        }
        if (t < 0 || t > LAST_CONTRACT_SEASON) {
            return OUTSIDE;
        }
        return state.payment(town, c, t);
    }

    public int basket(int k) {
        if (k != NONE && !town.hasLimb(k)) {
            return UNKNOWN;
        }
        basketSearch.search(town, state);
        if (!basketSearch.isFound()) {
            return NONE;
        }
        return k == NONE ? basketSearch.bestTotal : basketSearch.best[k];
    }

    public int ring(int i) {
        ringSearch.search(town);
        if (ringSearch.size == 0) {
            return NONE;
        }
        if (i == NONE) {
            return ringSearch.size;
        }
        return i < 0 || i >= ringSearch.size ? NONE : ringSearch.row[i];
    }

    public int mended() {
        ringSearch.search(town);
        return ringSearch.leastMending(town);
    }

    public int heirs(int k) {
        if (k != NONE && !town.hasLimb(k)) {
            return UNKNOWN;
        }
        if (Integer.bitCount(state.living()) < 2) {
            return NONE;
        }
        heirSearch.search(state);
        return k == NONE ? heirSearch.apartTogether() : heirSearch.chosen[k];
    }

    public int reach(int k, int what) {
        if (!town.hasLimb(k)) {
            return UNKNOWN;
        }
        if (what != 0 && what != 1) {
            return OUTSIDE;
        }
        int found = state.measure(town, k, 0);
        for (int s = 1; s < YEAR; s++) {
            int measure = state.measure(town, k, s);
            found = what == 0 ? Math.min(found, measure) : Math.max(found, measure);
        }
        return found;
    }

    public int bestCopy(int k, int what) {
        if (!town.hasLimb(k)) {
            return UNKNOWN;
        }
        if (what != 0 && what != 1) {
            return OUTSIDE;
        }
        if (!state.lives(k)) {
            return NONE;
        }
        int best = 0;
        for (int s = 1; s < YEAR; s++) {
            if (state.apartFrom(town, k, s) < state.apartFrom(town, k, best)) {
                best = s;
            }
        }
        return what == 0 ? best : state.apartFrom(town, k, best);
    }

    public int nearest(int v) {
        if (v < 0 || v > MOST_MEASURE) {
            return OUTSIDE;
        }
        int found = NONE;
        int least = 0;
        for (int k = 0; k < town.limbs; k++) {
            int apart = Math.abs(state.measureNow(town, k) - v);
            if (found == NONE || apart < least) {
                found = k;
                least = apart;
            }
        }
        return found;
    }

    public int odds(int k, int n, int q) {
        if (!town.hasLimb(k)) {
            return UNKNOWN;
        }
        if (n < 0 || n > MOST_ODDS_SEASONS || q < 0 || q > HUNDRED) {
            return OUTSIDE;
        }
        long spared = HUNDRED - Math.min(HUNDRED, q + 2 * k);
        long odds = BILLION;
        for (int i = 0; i < n; i++) {
            odds = odds * spared / HUNDRED;
        }
        return (int) odds;
    }

    // ---- what was got

    public int got(int n, int q) {
        if (n < 1 || n > MOST_TIMES || q < 0 || q > MOST_AMOUNT) {
            return OUTSIDE;
        }
        if (notes.gots >= MOST_GOT) {
            return FULL;
        }
        return notes.addGot(n, q);
    }

    public int used() {
        return notes.fitting(town, state);
    }

    public int bale() {
        int fitting = notes.fitting(town, state);
        if (Integer.bitCount(fitting) < 2) {
            return NONE;
        }
        for (int ahead = 0; ahead < YEAR; ahead++) {
            if (state.areUnlike(town, fitting, state.seasons() + ahead)) {
                return ahead;
            }
        }
        return NONE;
    }

    public int write(int k, int measure) {
        if (!town.hasLimb(k)) {
            return UNKNOWN;
        }
        if (measure < 0 || measure > MOST_MEASURE) {
            return OUTSIDE;
        }
        if (notes.entries >= MOST_ENTRIES) {
            return FULL;
        }
        return notes.addEntry(k, measure);
    }

    public int tear() {
        int had = notes.gots + notes.entries;
        notes.clearAll();
        return had;
    }

    public int judge() {
        return notes.firstWrong(town, state);
    }

    // ---- draws, images

    public int seed(int v) {
        if (v < 0) {
            return OUTSIDE;
        }
        int before = state.seedNow();
        state.sow(v);
        return before;
    }

    public int keep(int i) {
        if (!isImage(i)) {
            return UNKNOWN;
        }
        past.keepImage(i, state);
        past.forgetUndone();
        return 1;
    }

    public int goBack(int i) {
        if (!isImage(i)) {
            return UNKNOWN;
        }
        if (!past.hasImage(i)) {
            return NOT;
        }
        past.restoreImage(i, state);
        past.forgetUndone();
        return 1;
    }

    private static boolean isImage(int i) {
        return i >= 0 && i < MOST_IMAGES;
    }

    /** THE TEXT, as it is fed. */
    private static final class Letters {
        private static final int END = -1;

        private final int[] row = new int[MOST_LETTERS];
        private int count;

        boolean isFull() {
            return count >= MOST_LETTERS;
        }

        int append(int letter) {
            if (count < MOST_LETTERS) {
                row[count] = letter;
                count++;
            }
            return count;
        }

        /** END stands behind the last letter, so that a reader need not ask for the count. */
        int at(int place) {
            return place >= 0 && place < count ? row[place] : END;
        }

        void empty() {
            count = 0;
        }
    }

    /** What a text told; nothing that is done later changes it. */
    private static final class Port {
        private static final int TOLD_MORE = 9;

        private int limbs;
        private int contracts;
        private int rates;
        private final int[] length = new int[MOST_LIMBS];
        private final int[] added = new int[MOST_LIMBS * YEAR];
        private final int[] heir = new int[MOST_LIMBS];
        private final int[] contractSeason = new int[MOST_CONTRACTS];
        private final int[] contractLimb = new int[MOST_CONTRACTS];
        private final int[] contractTimes = new int[MOST_CONTRACTS];
        private final int[] rateFrom = new int[MOST_RATES];
        private final int[] rateTo = new int[MOST_RATES];
        private final int[] rateGiven = new int[MOST_RATES];
        private final int[] rateBack = new int[MOST_RATES];

        void clearAll() {
            limbs = 0;
            contracts = 0;
            rates = 0;
        }

        void takeOver(Port other) {
            limbs = other.limbs;
            contracts = other.contracts;
            rates = other.rates;
            System.arraycopy(other.length, 0, length, 0, MOST_LIMBS);
            System.arraycopy(other.added, 0, added, 0, MOST_LIMBS * YEAR);
            System.arraycopy(other.heir, 0, heir, 0, MOST_LIMBS);
            System.arraycopy(other.contractSeason, 0, contractSeason, 0, MOST_CONTRACTS);
            System.arraycopy(other.contractLimb, 0, contractLimb, 0, MOST_CONTRACTS);
            System.arraycopy(other.contractTimes, 0, contractTimes, 0, MOST_CONTRACTS);
            System.arraycopy(other.rateFrom, 0, rateFrom, 0, MOST_RATES);
            System.arraycopy(other.rateTo, 0, rateTo, 0, MOST_RATES);
            System.arraycopy(other.rateGiven, 0, rateGiven, 0, MOST_RATES);
            System.arraycopy(other.rateBack, 0, rateBack, 0, MOST_RATES);
        }

        boolean hasLimb(int k) {
            return k >= 0 && k < limbs;
        }

        boolean hasContract(int c) {
            return c >= 0 && c < contracts;
        }

        boolean hasRate(int r) {
            return r >= 0 && r < rates;
        }

        int addedAsTold(int k, int season) {
            return added[k * YEAR + season];
        }

        int addedIn(int k, int season) {
            return added[k * YEAR + season % YEAR] - TOLD_MORE;
        }

        void addLimb(int[] numbers) {
            if (limbs < MOST_LIMBS) {
                length[limbs] = numbers[0];
                System.arraycopy(numbers, 1, added, limbs * YEAR, YEAR);
                heir[limbs] = NONE;
                limbs++;
            }
        }

        void addContract(int[] numbers) {
            if (contracts < MOST_CONTRACTS) {
                contractSeason[contracts] = numbers[0];
                contractLimb[contracts] = numbers[1];
                contractTimes[contracts] = numbers[2];
                contracts++;
            }
        }

        void addRate(int[] numbers) {
            if (rates < MOST_RATES) {
                rateFrom[rates] = numbers[0];
                rateTo[rates] = numbers[1];
                rateGiven[rates] = numbers[2];
                rateBack[rates] = numbers[3];
                rates++;
            }
        }

        void addHeir(int[] numbers) {
            heir[numbers[0]] = numbers[1];
        }
    }

    /** Reads a text into a draft, so that a text with a FAULT leaves the port as it was. */
    private static final class Reader {
        private static final int NO_FAULT = 0, MISPLACED = 1, OUT_OF_BOUNDS = 2, TOO_MANY = 3, ALIKE = 4;
        private static final int LEAST_TOLD_LENGTH = 20, MOST_TOLD_LENGTH = 99, MOST_OF_RATE = 20;
        private static final int BLANK = 32, MOST_FIGURES = 3, MOST_NUMBERS = 5, TOO_GREAT = 1000;

        private final Letters text = new Letters();
        private final Port draft = new Port();
        private final int[] numbers = new int[MOST_NUMBERS];
        private int place;
        private int numberPlace;
        private int faultKind;
        private int faultPlace;

        void readText() {
            place = 0;
            faultKind = NO_FAULT;
            faultPlace = NONE;
            draft.clearAll();
            boolean goesOn = true;
            for (int clause = 0; clause < MOST_LETTERS && goesOn; clause++) {
                skipBlanks();
                goesOn = text.at(place) != Letters.END && readClause();
            }
        }

        private boolean readClause() {
            int word = text.at(place);
            if (!mayStart(word)) {
                return fail(MISPLACED, place);
            }
            if (isOneTooMany(word)) {
                return fail(TOO_MANY, place);
            }
            place++;
            switch (word) {
                case 'l': return readLimb();
                case 'c': return readContract();
                case 'r': return readRate();
                default: return readHeir();
            }
        }

        private boolean mayStart(int word) {
            if (word == 'l') {
                return true;
            }
            return draft.limbs > 0 && (word == 'c' || word == 'r' || word == 'h');
        }

        private boolean isOneTooMany(int word) {
            switch (word) {
                case 'l': return draft.limbs >= MOST_LIMBS;
                case 'c': return draft.contracts >= MOST_CONTRACTS;
                case 'r': return draft.rates >= MOST_RATES;
                default: return false;
            }
        }

        private boolean readLimb() {
            boolean isRead = readNumber(0, LEAST_TOLD_LENGTH, MOST_TOLD_LENGTH);
            for (int i = 1; i <= YEAR && isRead; i++) {
                isRead = readNumber(i, 0, 2 * Port.TOLD_MORE);
            }
            isRead = isRead && readClose();
            if (isRead) {
                draft.addLimb(numbers);
            }
            return isRead;
        }

        private boolean readContract() {
            boolean isRead = readNumber(0, 0, LAST_CONTRACT_SEASON) && readNumber(1, 0, draft.limbs - 1)
                    && readNumber(2, 1, MOST_TIMES) && readClose();
            if (isRead) {
                draft.addContract(numbers);
            }
            return isRead;
        }

        private boolean readRate() {
            boolean isRead = readNumber(0, 0, draft.limbs - 1) && readNumber(1, 0, draft.limbs - 1) && isUnlike()
                    && readNumber(2, 1, MOST_OF_RATE) && readNumber(3, 1, MOST_OF_RATE) && readClose();
            if (isRead) {
                draft.addRate(numbers);
            }
            return isRead;
        }

        private boolean readHeir() {
            boolean isRead = readNumber(0, 0, draft.limbs - 1) && isWithoutHeir()
                    && readNumber(1, 0, draft.limbs - 1) && isUnlike() && readClose();
            if (isRead) {
                draft.addHeir(numbers);
            }
            return isRead;
        }

        private boolean isWithoutHeir() {
            return draft.heir[numbers[0]] == NONE || fail(ALIKE, numberPlace);
        }

        private boolean isUnlike() {
            return numbers[0] != numbers[1] || fail(ALIKE, numberPlace);
        }

        private boolean readNumber(int i, int least, int most) {
            skipBlanks();
            numberPlace = place;
            int value = 0;
            for (int n = 0; n < MOST_LETTERS && isFigure(text.at(place)); n++) {
                value = Math.min(TOO_GREAT, value * 10 + text.at(place) - '0');
                place++;
            }
            int figures = place - numberPlace;
            if (figures == 0) {
                return fail(MISPLACED, place);
            }
            if (figures > MOST_FIGURES || value < least || value > most) {
                return fail(OUT_OF_BOUNDS, numberPlace);
            }
            numbers[i] = value;
            return true;
        }

        private boolean readClose() {
            skipBlanks();
            if (text.at(place) != ';') {
                return fail(MISPLACED, place);
            }
            place++;
            return true;
        }

        private void skipBlanks() {
            for (int n = 0; n < MOST_LETTERS && text.at(place) == BLANK; n++) {
                place++;
            }
        }

        private static boolean isFigure(int letter) {
            return letter >= '0' && letter <= '9';
        }

        private boolean fail(int kind, int where) {
            faultKind = kind;
            faultPlace = where;
            return false;
        }
    }

    /**
     * What is so now, in one row: its front part is what can be undone, and all of it is what an IMAGE keeps, so
     * that both are one copying of elements.
     */
    private static final class State {
        private static final int LENGTHS = 0, COPIES = LENGTHS + MOST_LIMBS, PAID = COPIES + MOST_LIMBS;
        private static final int LIVING = PAID + MOST_CONTRACTS, SEASONS = LIVING + 1, UNDO_SIZE = SEASONS + 1;
        private static final int SEED = UNDO_SIZE, SIZE = SEED + 1;
        private static final int GREATEST_LENGTH = 140, LEAST_LENGTH = 1, STUB_LOSS = 3;

        private final int[] row = new int[SIZE];

        State() {
            for (int i = COPIES; i < LIVING; i++) {
                row[i] = NONE;
            }
        }

        void begin(Port port) {
            System.arraycopy(port.length, 0, row, LENGTHS, MOST_LIMBS);
            for (int i = COPIES; i < LIVING; i++) {
                row[i] = NONE;
            }
            row[LIVING] = (1 << port.limbs) - 1;
            row[SEASONS] = 0;
        }

        int lengthOf(int k) {
            return row[LENGTHS + k];
        }

        int copyOf(int k) {
            return row[COPIES + k];
        }

        int paidOf(int c) {
            return row[PAID + c];
        }

        int living() {
            return row[LIVING];
        }

        int seasons() {
            return row[SEASONS];
        }

        int seedNow() {
            return row[SEED];
        }

        boolean lives(int k) {
            return (row[LIVING] >> k & 1) != 0;
        }

        int copied() {
            int set = 0;
            for (int k = 0; k < MOST_LIMBS; k++) {
                if (row[COPIES + k] != NONE) {
                    set |= 1 << k;
                }
            }
            return set;
        }

        int paidTogether() {
            int sum = 0;
            for (int c = 0; c < MOST_CONTRACTS; c++) {
                sum += Math.max(0, row[PAID + c]);
            }
            return sum;
        }

        int noughts() {
            int set = 0;
            for (int c = 0; c < MOST_CONTRACTS; c++) {
                if (row[PAID + c] == 0) {
                    set |= 1 << c;
                }
            }
            return set;
        }

        int ownMeasure(Port port, int k, int season) {
            return Math.max(0, row[LENGTHS + k] + port.addedIn(k, season));
        }

        int measure(Port port, int k, int season) {
            int at = k;
            for (int step = 0; step <= MOST_LIMBS && at != NONE; step++) {
                if (row[COPIES + at] != NONE) {
                    return row[COPIES + at];
                }
                if (lives(at)) {
                    return ownMeasure(port, at, season);
                }
                at = port.heir[at];
            }
            return 0;
        }

        int measureNow(Port port, int k) {
            return measure(port, k, row[SEASONS]);
        }

        int payment(Port port, int c, int season) {
            return port.contractTimes[c] * measure(port, port.contractLimb[c], season);
        }

        int apartFrom(Port port, int k, int season) {
            int from = ownMeasure(port, k, season);
            int sum = 0;
            for (int s = 0; s < YEAR; s++) {
                sum += Math.abs(ownMeasure(port, k, s) - from);
            }
            return sum;
        }

        boolean areUnlike(Port port, int set, int season) {
            for (int k = 1; k < port.limbs; k++) {
                for (int j = 0; j < k; j++) {
                    boolean areBothIn = (set >> k & set >> j & 1) != 0;
                    if (areBothIn && measure(port, k, season) == measure(port, j, season)) {
                        return false;
                    }
                }
            }
            return true;
        }

        void passSeason(Port port) {
            for (int c = 0; c < port.contracts; c++) {
                if (port.contractSeason[c] == row[SEASONS]) {
                    row[PAID + c] = payment(port, c, row[SEASONS]);
                }
            }
            row[SEASONS]++;
        }

        void swell(int k, int more) {
            row[LENGTHS + k] = Math.min(GREATEST_LENGTH, row[LENGTHS + k] + more);
        }

        void shorten(int k) {
            row[LENGTHS + k] = Math.max(LEAST_LENGTH, row[LENGTHS + k] - STUB_LOSS);
        }

        void bury(int k) {
            row[LIVING] &= ~(1 << k);
        }

        void carve(Port port, int k) {
            row[COPIES + k] = ownMeasure(port, k, row[SEASONS]);
        }

        void sow(int seed) {
            row[SEED] = seed;
        }

        /** All draws are made for a dead limb too: the document lets its life decide on the harm alone. */
        void sufferByDraws(Port port) {
            int fate = nextDraw(6);
            if (fate == 0) {
                int k = nextDraw(port.limbs);
                int more = nextDraw(MOST_GOUT) + 1;
                if (lives(k)) {
                    swell(k, more);
                }
            } else if (fate == 1) {
                int k = nextDraw(port.limbs);
                if (lives(k)) {
                    shorten(k);
                }
            }
        }

        private int nextDraw(int n) {
            long grown = row[SEED] * 1103515245L + 12345L;
            row[SEED] = (int) (grown & 0x7fffffffL);
            return n > 0 ? row[SEED] / 65536 % n : 0;
        }
    }

    /** What can be undone, oldest first in a circle, and the IMAGES. */
    private static final class Past {
        private final int[] undone = new int[MOST_UNDONE * State.UNDO_SIZE];
        private final int[] images = new int[MOST_IMAGES * State.SIZE];
        private int oldest;
        private int undoable;
        private int kept;

        void remember(State state) {
            if (undoable == MOST_UNDONE) {
                oldest = (oldest + 1) % MOST_UNDONE;
            } else {
                undoable++;
            }
            System.arraycopy(state.row, 0, undone, latestPlace(), State.UNDO_SIZE);
        }

        void restoreLatest(State state) {
            if (undoable > 0) {
                System.arraycopy(undone, latestPlace(), state.row, 0, State.UNDO_SIZE);
                undoable--;
            }
        }

        private int latestPlace() {
            return (oldest + undoable - 1) % MOST_UNDONE * State.UNDO_SIZE;
        }

        void forgetUndone() {
            oldest = 0;
            undoable = 0;
        }

        boolean hasImage(int i) {
            return (kept >> i & 1) != 0;
        }

        void keepImage(int i, State state) {
            System.arraycopy(state.row, 0, images, i * State.SIZE, State.SIZE);
            kept |= 1 << i;
        }

        void restoreImage(int i, State state) {
            System.arraycopy(images, i * State.SIZE, state.row, 0, State.SIZE);
        }

        void forgetImages() {
            kept = 0;
        }
    }

    /** What was GOT, and THE BOOK. */
    private static final class Notes {
        private final int[] gotTimes = new int[MOST_GOT];
        private final int[] gotAmount = new int[MOST_GOT];
        private final int[] entryLimb = new int[MOST_ENTRIES];
        private final int[] entryMeasure = new int[MOST_ENTRIES];
        private int gots;
        private int entries;

        int addGot(int times, int amount) {
            if (gots < MOST_GOT) {
                gotTimes[gots] = times;
                gotAmount[gots] = amount;
                gots++;
            }
            return gots;
        }

        int addEntry(int k, int measure) {
            if (entries < MOST_ENTRIES) {
                entryLimb[entries] = k;
                entryMeasure[entries] = measure;
                entries++;
            }
            return entries;
        }

        void clearAll() {
            gots = 0;
            entries = 0;
        }

        int fitting(Port port, State state) {
            int set = 0;
            for (int k = 0; k < port.limbs; k++) {
                if (fitsAll(state.measureNow(port, k))) {
                    set |= 1 << k;
                }
            }
            return set;
        }

        private boolean fitsAll(int measure) {
            for (int g = 0; g < gots; g++) {
                if (gotTimes[g] * measure != gotAmount[g]) {
                    return false;
                }
            }
            return true;
        }

        int firstWrong(Port port, State state) {
            for (int e = 0; e < entries; e++) {
                if (state.measureNow(port, entryLimb[e]) != entryMeasure[e]) {
                    return e;
                }
            }
            return NONE;
        }
    }

    /**
     * Tries baskets of one limb, then of two, then of three, each kind in the document's order: so the first with
     * fewer times in all than any ahead of it is the one that is asked.
     */
    private static final class BasketSearch {
        private static final int MOST_IN_BASKET = 3, MOST_OF_ONE = 4, NOTHING_FOUND = MOST_IN_BASKET * MOST_OF_ONE + 1;

        // How far seasons 1 to 3 are from season 0: a basket is safe where these sums are nought.
        private final int[] apart1 = new int[MOST_LIMBS];
        private final int[] apart2 = new int[MOST_LIMBS];
        private final int[] apart3 = new int[MOST_LIMBS];
        private final int[] times = new int[MOST_LIMBS];
        private final int[] best = new int[MOST_LIMBS];
        private int bestTotal;
        private int allowed;
        private int limbs;

        boolean isFound() {
            return bestTotal < NOTHING_FOUND;
        }

        void search(Port port, State state) {
            limbs = port.limbs;
            allowed = state.living() & ~state.copied();
            bestTotal = NOTHING_FOUND;
            for (int k = 0; k < limbs; k++) {
                int first = state.measure(port, k, 0);
                apart1[k] = state.measure(port, k, 1) - first;
                apart2[k] = state.measure(port, k, 2) - first;
                apart3[k] = state.measure(port, k, 3) - first;
                times[k] = 0;
            }
            for (int size = 1; size <= MOST_IN_BASKET; size++) {
                extend(0, size, 0, 0, 0, 0);
            }
        }

        private void extend(int from, int left, int total, int sum1, int sum2, int sum3) {
            if (left <= 0) {
                if (total < bestTotal && sum1 == 0 && sum2 == 0 && sum3 == 0) {
                    bestTotal = total;
                    System.arraycopy(times, 0, best, 0, MOST_LIMBS);
                }
                return;
            }
            for (int k = from; k < limbs; k++) {
                if ((allowed >> k & 1) != 0) {
                    for (int n = 1; n <= MOST_OF_ONE && total + n + left - 1 < bestTotal; n++) {
                        times[k] = n;
                        extend(k + 1, left - 1, total + n, sum1 + n * apart1[k], sum2 + n * apart2[k],
                                sum3 + n * apart3[k]);
                    }
                    times[k] = 0;
                }
            }
        }
    }

    /** Finds the first row of RATES that gains; its size is 0 where there is none. */
    private static final class RingSearch {
        private static final int LEAST_RING = 2, MOST_RING = 4;

        private final int[] row = new int[MOST_RING];
        private int size;

        void search(Port port) {
            for (int tried = LEAST_RING; tried <= MOST_RING; tried++) {
                size = tried;
                if (extend(port, 0, 0, 1, 1)) {
                    return;
                }
            }
            size = 0;
        }

        private boolean extend(Port port, int depth, int seen, int given, int back) {
            if (depth >= MOST_RING) {
                return false;
            }
            for (int r = 0; r < port.rates; r++) {
                int from = port.rateFrom[r];
                boolean goesOn = depth == 0 || from == port.rateTo[row[depth - 1]];
                if (goesOn && (seen >> from & 1) == 0) {
                    row[depth] = r;
                    int allGiven = given * port.rateGiven[r];
                    int allBack = back * port.rateBack[r];
                    boolean isGain = depth + 1 == size
                            ? port.rateTo[r] == port.rateFrom[row[0]] && allBack > allGiven
                            : extend(port, depth + 1, seen | 1 << from, allGiven, allBack);
                    if (isGain) {
                        return true;
                    }
                }
            }
            return false;
        }

        int leastMending(Port port) {
            int found = NONE;
            for (int i = 0; i < size; i++) {
                if ((found == NONE || row[i] < found) && !gainsWithLess(port, i)) {
                    found = row[i];
                }
            }
            return found;
        }

        private boolean gainsWithLess(Port port, int lessened) {
            int given = 1;
            int back = 1;
            for (int i = 0; i < size; i++) {
                int of = port.rateBack[row[i]];
                given *= port.rateGiven[row[i]];
                back *= i == lessened ? Math.max(1, of - 1) : of;
            }
            return back > given;
        }
    }

    /**
     * The limbs that live choose one behind the other; least[m] is how far apart those still to choose are together
     * at least, where the heirs of the SET m are taken: their count tells whose turn it is.
     */
    private static final class HeirSearch {
        private static final int ALL_SETS = 1 << MOST_LIMBS, NO_WAY = 1000000;

        private final int[] least = new int[ALL_SETS];
        private final int[] chosen = new int[MOST_LIMBS];
        private final int[] turns = new int[MOST_LIMBS];
        private int count;

        int apartTogether() {
            return least[0];
        }

        void search(State state) {
            count = 0;
            for (int k = 0; k < MOST_LIMBS; k++) {
                chosen[k] = NONE;
                if (state.lives(k)) {
                    turns[count] = k;
                    count++;
                }
            }
            for (int taken = ALL_SETS - 1; taken >= 0; taken--) {
                if ((taken & ~state.living()) == 0) {
                    least[taken] = leastFrom(state, taken);
                }
            }
            chooseAll(state);
        }

        private int leastFrom(State state, int taken) {
            int turn = Integer.bitCount(taken);
            if (turn >= count) {
                return 0;
            }
            int found = NO_WAY;
            for (int i = 0; i < count; i++) {
                if (isFree(taken, turn, i)) {
                    found = Math.min(found, apartBy(state, taken, turn, i));
                }
            }
            return found;
        }

        private void chooseAll(State state) {
            int taken = 0;
            for (int turn = 0; turn < count; turn++) {
                boolean isChosen = false;
                for (int i = 0; i < count && !isChosen; i++) {
                    if (isFree(taken, turn, i) && apartBy(state, taken, turn, i) == least[taken]) {
                        chosen[turns[turn]] = turns[i];
                        taken |= 1 << turns[i];
                        isChosen = true;
                    }
                }
            }
        }

        private boolean isFree(int taken, int turn, int i) {
            return i != turn && (taken >> turns[i] & 1) == 0;
        }

        private int apartBy(State state, int taken, int turn, int i) {
            int apart = Math.abs(state.lengthOf(turns[turn]) - state.lengthOf(turns[i]));
            return apart + least[taken | 1 << turns[i]];
        }
    }
}
