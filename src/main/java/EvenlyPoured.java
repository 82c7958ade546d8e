import java.util.Arrays;

/** Tea that gets stronger as it is poured, in dribs, into cups: the document's promises 1 to 33. */
public final class EvenlyPoured {
    public static final int NONE = -1, BAD = -2, STATE = -3, FULL = -4;
    public static final long NO = -4611686018427387904L;

    private static final int NOTHING = -11, OUTSIDE = -12, OTHER_SORT = -13, BELOW_ZERO = -14;
    private static final int FAULT = -100;

    private static final int CUPS_MOST = 4, DRIBS_MOST = 24, WAYS_MOST = 65536, TASTED_MOST = 9;
    private static final int POURERS_MOST = 6, KINDS = 6, NUMBER_MOST = 9;
    private static final int THINGS = 8, PRICE_MOST = 99;
    private static final int TEXTS_MOST = 6, TAPE_MOST = 160, BYTE_MOST = 255, POWER_MOST = 4;
    private static final int STRONG_MOST = 999, DRIPS_MOST = 999, LIKED_MOST = 9999, UNEVEN_MOST = 99999;
    private static final int OFF_MOST = 20, SEEDS_MOST = 20;
    private static final int SHEETS = 4, SORTS = 3, ITEMS_MOST = 40;

    /** In a token or a formula a number stands as it is, a name from here on, all else below 0. */
    private static final int FIRST_NAME = 10000;
    private static final int NAMES = 6;
    private static final int DRIB_NAME = 0, DRIBS_NAME = 1, CUPS_NAME = 2, CUP_NAME = 3, FULL_NAME = 4, WAS_NAME = 5;
    /** First the names, in the order of their numbers, then the keys, in that of theirs. */
    private static final String WORDS = "drib dribs cups cup full was strong drips liked or and not ";
    private static final int STRONG = -6, DRIPS = -7, LIKED = -8, OR = -9, AND = -10, NOT = -11;
    private static final int END = -1, WRONG = -2, NEGATE = -3;
    /** A sign is its byte, below 0. */
    private static final int PLUS = -'+', MINUS = -'-', STAR = -'*', LESS = -'<', SAME = -'=';
    private static final int OPENING = -'(', CLOSING = -')', STOP = -';';

    /** What binds the parts of a formula, from the loosest to the closest. */
    private static final int EITHER = 0, BOTH = 1, COMPARED = 2, SUMMED = 3, TIMES = 4, ONE = 5;
    private static final int OPEN_MOST = 5, DIGITS_MOST = 4;
    /** Six parts inside one another (five open ones and the outermost) keep five lefts each at most. */
    private static final int STACK_MOST = 40;

    /** The largest of dribs * cups * (dribs + 1) * cups with WAYS_MOST ways at most: 8 dribs, 4 cups. */
    private static final int GAINS_MOST = 1152;
    /** More uneven, and more changes, than any way can be. */
    private static final int UNKNOWN = 2147483647;

    private static final int POURER = 0, ZIGZAG = 1, ROW = 2, SLOW = 3, TURNED = 4;
    /** For each kind the one that it is under. */
    private static final int[] UNDER = {NONE, POURER, POURER, ZIGZAG, ROW, ZIGZAG};

    private int cups = 2;
    private int dribs = 8;
    private final int[] row = new int[DRIBS_MOST];
    private final int[] prices = new int[THINGS];
    private final Pourer[] pourers = new Pourer[POURERS_MOST];
    private int pourersMade = 0;
    private final Text[] texts = new Text[TEXTS_MOST];
    private int textsMade = 1;
    private int rule = 0;
    private final Tape tape = new Tape();
    private final Reader reader = new Reader(tape);
    private final Sheet[] sheets = new Sheet[SHEETS];
    private final Kept kept = new Kept();
    private final Pouring pouring;
    private final Search search;
    /** The row of a pourer, made anew by each call that asks for one. */
    private final int[] pouredRow = new int[DRIBS_MOST];
    private final int[] had = new int[CUPS_MOST];
    private final boolean[] gone = new boolean[THINGS];

    public EvenlyPoured() {
        int[] strong = {FIRST_NAME + DRIB_NAME, 1, PLUS};
        int[] drips = {0};
        int[] liked = {FIRST_NAME + DRIBS_NAME, 3, STAR};
        Text first = new Text(strong, drips, liked);
        // TEXT 0 stands in places without a text as well: so that none is ever null.
        for (int k = 0; k < TEXTS_MOST; k++) {
            texts[k] = first;
        }
        for (int k = 0; k < POURERS_MOST; k++) {
            pourers[k] = new Pourer();
        }
        for (int k = 0; k < SHEETS; k++) {
            sheets[k] = new Sheet();
        }
        Teller teller = new Teller(first);
        pouring = new Pouring(teller);
        search = new Search(teller);
    }

    // ---- cups, dribs, the row

    public int set(int what, int of, int v) {
        switch (what) {
            case 0:
                return changeCups(v);
            case 1:
                return changeDribs(v);
            case 2:
                return changeNumber(of, v);
            case 3:
                return changePrice(of, v);
            default:
                return BAD;
        }
    }

    private int changeCups(int v) {
        if (v < 1 || v > CUPS_MOST) {
            return BAD;
        }
        int before = cups;
        cups = v;
        Arrays.fill(row, 0);
        return before;
    }

    private int changeDribs(int v) {
        if (v < 0 || v > DRIBS_MOST) {
            return BAD;
        }
        int before = dribs;
        dribs = v;
        Arrays.fill(row, 0);
        return before;
    }

    private int changeNumber(int of, int v) {
        if (!isPourer(of) || v < 0 || v > NUMBER_MOST) {
            return BAD;
        }
        int before = pourers[of].number;
        pourers[of].number = v;
        return before;
    }

    private int changePrice(int of, int v) {
        if (!isThing(of) || v < 0 || v > PRICE_MOST) {
            return BAD;
        }
        int before = prices[of];
        prices[of] = v;
        return before;
    }

    public int told(int of, int what) {
        switch (what) {
            case 0:
                return isPourer(of) ? pourers[of].number : BAD;
            case 1:
                return isPourer(of) ? pourers[of].kind : BAD;
            case 2:
                return isThing(of) ? prices[of] : BAD;
            default:
                return BAD;
        }
    }

    public int lay(int drib, int cup) {
        if (!isDrib(drib) || !isCup(cup)) {
            return BAD;
        }
        int before = row[drib];
        row[drib] = cup;
        return before;
    }

    public int at(int drib) {
        return isDrib(drib) ? row[drib] : BAD;
    }

    public int pourer(int kind, int number) {
        if (!isKind(kind) || number < 0 || number > NUMBER_MOST) {
            return BAD;
        }
        if (pourersMade >= POURERS_MOST) {
            return FULL;
        }
        pourers[pourersMade].kind = kind;
        pourers[pourersMade].number = number;
        pourersMade++;
        return pourersMade - 1;
    }

    private boolean isCup(int cup) {
        return cup >= 0 && cup < cups;
    }

    private boolean isDrib(int drib) {
        return drib >= 0 && drib < dribs;
    }

    private boolean isPourer(int number) {
        return number >= 0 && number < pourersMade;
    }

    private static boolean isKind(int kind) {
        return kind >= 0 && kind < KINDS;
    }

    private static boolean isThing(int thing) {
        return thing >= 0 && thing < THINGS;
    }

    // ---- texts

    public int feed(int letter) {
        if (letter < 0 || letter > BYTE_MOST) {
            return BAD;
        }
        if (tape.size >= TAPE_MOST) {
            return FULL;
        }
        tape.bytes[tape.size] = letter;
        tape.size++;
        return tape.size;
    }

    public int text() {
        if (textsMade >= TEXTS_MOST) {
            return FULL;
        }
        Text read = reader.read();
        tape.size = 0;
        if (read == null) {
            return FAULT - reader.place();
        }
        texts[textsMade] = read;
        textsMade++;
        return textsMade - 1;
    }

    public int force(int text) {
        if (text < 0 || text >= textsMade) {
            return BAD;
        }
        int before = rule;
        rule = text;
        return before;
    }

    // ---- pouring

    public int cup(int cup, int what) {
        if (!isCup(cup) || what < 0 || what > 2) {
            return BAD;
        }
        pourRow();
        switch (what) {
            case 0:
                return pouring.full[cup];
            case 1:
                return pouring.strength[cup];
            default:
                return pouring.wanted(cup);
        }
    }

    public int all(int what) {
        if (what < 0 || what > 4) {
            return BAD;
        }
        pourRow();
        switch (what) {
            case 0:
                return pouring.uneven();
            case 1:
                return pouring.odd();
            case 2:
                return pouring.changes;
            case 3:
                return pouring.dripped;
            default:
                return greatestEvenPower();
        }
    }

    public long mean(int cup, int part) {
        if (!isCup(cup) || !isPart(part)) {
            return NO;
        }
        pourRow();
        int full = pouring.full[cup];
        return full == 0 ? NO : inLowestTerms(pouring.strength[cup], full, part);
    }

    public int evenest(int what) {
        if (what < 0 || what >= 2 + dribs) {
            return BAD;
        }
        if (!waysAreFew()) {
            return STATE;
        }
        findEvenest();
        switch (what) {
            case 0:
                return search.leastUneven;
            case 1:
                return search.changesThen;
            default:
                return search.evenestRow[what - 2];
        }
    }

    public int become() {
        if (!waysAreFew()) {
            return STATE;
        }
        findEvenest();
        System.arraycopy(search.evenestRow, 0, row, 0, dribs);
        return search.leastUneven;
    }

    public int fewest(int v) {
        if (v < 0 || v > UNEVEN_MOST) {
            return BAD;
        }
        if (!waysAreFew()) {
            return STATE;
        }
        findEvenest();
        return search.fewestChanges(v);
    }

    public int next(int what) {
        if (what < 0 || what > 1) {
            return BAD;
        }
        if (dribs >= DRIBS_MOST) {
            return STATE;
        }
        int bestCup = 0;
        int least = unevenWithOneMore(0);
        for (int cup = 1; cup < cups; cup++) {
            int uneven = unevenWithOneMore(cup);
            if (uneven < least) {
                least = uneven;
                bestCup = cup;
            }
        }
        return what == 0 ? bestCup : least;
    }

    private int unevenWithOneMore(int cup) {
        pouring.begin(texts[rule], cups, dribs + 1);
        for (int drib = 0; drib < dribs; drib++) {
            pouring.drop(drib, row[drib], 0);
        }
        pouring.drop(dribs, cup, 0);
        return pouring.uneven();
    }

    private void pourRow() {
        pourAllBut(NONE);
    }

    private void pourAllBut(int cup) {
        pouring.begin(texts[rule], cups, dribs);
        for (int drib = 0; drib < dribs; drib++) {
            if (row[drib] != cup) {
                pouring.drop(drib, row[drib], 0);
            }
        }
    }

    private int greatestEvenPower() {
        for (int power = 0; power <= POWER_MOST; power++) {
            if (!isAsMuchInEachCup(power)) {
                return power - 1;
            }
        }
        return POWER_MOST;
    }

    private boolean isAsMuchInEachCup(int power) {
        int first = sumOfPowers(0, power);
        for (int cup = 1; cup < cups; cup++) {
            if (sumOfPowers(cup, power) != first) {
                return false;
            }
        }
        return true;
    }

    private int sumOfPowers(int cup, int power) {
        int sum = 0;
        for (int drib = 0; drib < dribs; drib++) {
            if (row[drib] == cup) {
                int product = 1;
                for (int k = 0; k < power; k++) {
                    product *= drib;
                }
                sum += product;
            }
        }
        return sum;
    }

    private boolean waysAreFew() {
        int ways = 1;
        for (int drib = 0; drib < dribs; drib++) {
            ways *= cups;
            if (ways > WAYS_MOST) {
                return false;
            }
        }
        return true;
    }

    private void findEvenest() {
        search.ready(rule, texts[rule], cups, dribs);
        search.findEvenest();
    }

    private static boolean isPart(int part) {
        return part == 0 || part == 1;
    }

    private static long inLowestTerms(long above, long below, int part) {
        long divisor = above;
        long rest = below;
        // Euclid's rest halves every second step, so that a hundred steps are enough for any longs.
        for (int k = 0; k < 200 && rest != 0; k++) {
            long left = divisor % rest;
            divisor = rest;
            rest = left;
        }
        if (divisor == 0) {
            return NO;
        }
        return (part == 0 ? above : below) / divisor;
    }

    // ---- pourers

    public int poured(int pourer, int drib) {
        if (!isPourer(pourer) || (drib != NONE && !isDrib(drib))) {
            return BAD;
        }
        pourBy(pourers[pourer]);
        return drib == NONE ? pouring.uneven() : pouredRow[drib];
    }

    public int follow(int pourer) {
        if (!isPourer(pourer)) {
            return BAD;
        }
        pourBy(pourers[pourer]);
        System.arraycopy(pouredRow, 0, row, 0, dribs);
        return pouring.uneven();
    }

    public int which(int what) {
        if (what < 0 || what > 1) {
            return BAD;
        }
        int best = NONE;
        int least = NONE;
        for (int number = 0; number < pourersMade; number++) {
            pourBy(pourers[number]);
            int uneven = pouring.uneven();
            if (best == NONE || uneven < least) {
                best = number;
                least = uneven;
            }
        }
        return what == 0 ? best : least;
    }

    /** LEAST looks at the strengths so far: so the row is told and poured at once. */
    private void pourBy(Pourer by) {
        pouring.begin(texts[rule], cups, dribs);
        for (int drib = 0; drib < dribs; drib++) {
            int cup = by.goes(drib, cups, pouring.strength);
            pouredRow[drib] = cup;
            pouring.drop(drib, cup, 0);
        }
    }

    public int captains(int captain) {
        if (captain != NONE && !isCup(captain)) {
            return BAD;
        }
        Arrays.fill(had, 0);
        for (int thing = 0; thing < THINGS; thing++) {
            gone[thing] = false;
        }
        for (int drib = 0; drib < dribs; drib++) {
            int thing = dearestLeft();
            if (thing != NONE) {
                gone[thing] = true;
                had[row[drib]] += prices[thing];
            }
        }
        return captain == NONE ? mostLessLeast(had, cups) : had[captain];
    }

    private int dearestLeft() {
        int dearest = NONE;
        for (int thing = 0; thing < THINGS; thing++) {
            if (!gone[thing] && (dearest == NONE || prices[thing] > prices[dearest])) {
                dearest = thing;
            }
        }
        return dearest;
    }

    private static int mostLessLeast(int[] numbers, int n) {
        int most = numbers[0];
        int least = numbers[0];
        for (int k = 1; k < n; k++) {
            most = Math.max(most, numbers[k]);
            least = Math.min(least, numbers[k]);
        }
        return most - least;
    }

    // ---- tastes

    public int tastes(int sheet, int what) {
        if (!isSheet(sheet) || what < 0 || what > 1) {
            return BAD;
        }
        int refusal = notTasted(sheet);
        if (refusal != 0) {
            return refusal;
        }
        if (dribs > TASTED_MOST || !waysAreFew()) {
            return STATE;
        }
        search.ready(rule, texts[rule], cups, dribs);
        search.findTasted(sheets[sheet].items);
        return what == 0 ? search.tasted : search.firstTasted;
    }

    public int whom(int sheet) {
        if (!isSheet(sheet)) {
            return BAD;
        }
        int refusal = notTasted(sheet);
        if (refusal != 0) {
            return refusal;
        }
        int bits = 0;
        for (int number = 0; number < pourersMade; number++) {
            pourBy(pourers[number]);
            if (tastesAsTold(sheets[sheet].items, NONE)) {
                bits |= 1 << number;
            }
        }
        return bits;
    }

    public int forgotten(int sheet) {
        if (!isSheet(sheet)) {
            return BAD;
        }
        int refusal = notTasted(sheet);
        if (refusal != 0) {
            return refusal;
        }
        for (int cup = 0; cup < cups; cup++) {
            pourAllBut(cup);
            if (tastesAsTold(sheets[sheet].items, cup)) {
                return cup;
            }
        }
        return NONE;
    }

    /** Why a sheet can't tell the strengths of the cups; 0: it can. */
    private int notTasted(int sheet) {
        if (sheets[sheet].isMissing()) {
            return NOTHING;
        }
        return sheets[sheet].size == cups ? 0 : BAD;
    }

    private boolean tastesAsTold(int[] strengths, int butFor) {
        for (int cup = 0; cup < cups; cup++) {
            if (cup != butFor && pouring.strength[cup] != strengths[cup]) {
                return false;
            }
        }
        return true;
    }

    public int drawn(int seed, int off) {
        return isOff(off) ? unevenByLot(seed, off) : BAD;
    }

    public long chance(int seed, int n, int off, int part) {
        if (n < 1 || n > SEEDS_MOST || !isOff(off) || !isPart(part)) {
            return NO;
        }
        long sum = 0;
        for (int k = 0; k < n; k++) {
            sum += unevenByLot(seed + k, off);
        }
        return inLowestTerms(sum, n, part);
    }

    private static boolean isOff(int off) {
        return off >= 0 && off <= OFF_MOST;
    }

    private int unevenByLot(int seed, int off) {
        int z = seed;
        pouring.begin(texts[rule], cups, dribs);
        for (int drib = 0; drib < dribs; drib++) {
            z = z * 1103515245 + 12345;
            pouring.drop(drib, row[drib], (z >>> 10) % (off + 1));
        }
        return pouring.uneven();
    }

    public int image() {
        kept.there = true;
        kept.cups = cups;
        kept.dribs = dribs;
        kept.pourers = pourersMade;
        kept.rule = rule;
        System.arraycopy(row, 0, kept.row, 0, DRIBS_MOST);
        System.arraycopy(prices, 0, kept.prices, 0, THINGS);
        for (int number = 0; number < pourersMade; number++) {
            kept.numbers[number] = pourers[number].number;
        }
        return dribs;
    }

    public int back() {
        if (!kept.there) {
            return STATE;
        }
        cups = kept.cups;
        dribs = kept.dribs;
        rule = kept.rule;
        System.arraycopy(kept.row, 0, row, 0, DRIBS_MOST);
        System.arraycopy(kept.prices, 0, prices, 0, THINGS);
        pourersMade = kept.pourers;
        for (int number = 0; number < pourersMade; number++) {
            pourers[number].number = kept.numbers[number];
        }
        return dribs;
    }

    public int count(int what) {
        switch (what) {
            case 0:
                return cups;
            case 1:
                return dribs;
            case 2:
                return pourersMade;
            case 3:
                return textsMade;
            case 4:
                return tape.size;
            case 5:
                return rule;
            default:
                return BAD;
        }
    }

    // ---- the host

    public int sheet(int sheet, int sort, int n) {
        if (!isSheet(sheet) || (sort != NONE && !isSort(sort))) {
            return BAD;
        }
        if (sort == NONE) {
            sheets[sheet].begin(NONE, 0);
            return 1;
        }
        if (n > ITEMS_MOST) {
            return BAD;
        }
        if (n < 0) {
            return BELOW_ZERO;
        }
        sheets[sheet].begin(sort, n);
        return 1;
    }

    public int cell(int sheet, int i, int v) {
        if (!isSheet(sheet)) {
            return BAD;
        }
        if (sheets[sheet].isMissing()) {
            return NOTHING;
        }
        if (!sheets[sheet].has(i)) {
            return OUTSIDE;
        }
        sheets[sheet].write(i, v);
        return 1;
    }

    public int copy(int sheet, int i, int other, int j, int n) {
        if (!isSheet(sheet) || !isSheet(other)) {
            return BAD;
        }
        Sheet from = sheets[sheet];
        Sheet to = sheets[other];
        if (from.isMissing() || to.isMissing()) {
            return NOTHING;
        }
        if (from.sort != to.sort) {
            return OTHER_SORT;
        }
        if (!from.hasAll(i, n) || !to.hasAll(j, n)) {
            return OUTSIDE;
        }
        System.arraycopy(from.items, i, to.items, j, n);
        return n;
    }

    public int rows(int sheet, int sort, int from, int n) {
        if (!isSheet(sheet) || !isSort(sort) || n < 0 || n > DRIBS_MOST) {
            return BAD;
        }
        Sheet told = sheets[sheet];
        if (told.isMissing()) {
            return NOTHING;
        }
        if (told.sort != sort) {
            return OTHER_SORT;
        }
        int became = 0;
        for (int drib = 0; drib < n; drib++) {
            // A sum that wraps is below 0, and so outside as well.
            if (!told.has(from + drib)) {
                return OUTSIDE;
            }
            int cup = told.items[from + drib];
            if (isDrib(drib) && isCup(cup)) {
                row[drib] = cup;
                became++;
            }
        }
        return became;
    }

    public int taken(int pourer, int k) {
        if (!isKind(k)) {
            return BAD;
        }
        if (!isPourer(pourer)) {
            return NOTHING;
        }
        return pourers[pourer].isOf(k) ? pourers[pourer].number : OTHER_SORT;
    }

    private static boolean isSheet(int sheet) {
        return sheet >= 0 && sheet < SHEETS;
    }

    private static boolean isSort(int sort) {
        return sort >= 0 && sort < SORTS;
    }

    /** One that lays rows. */
    private static final class Pourer {
        private int kind = POURER;
        private int number = 0;

        boolean isOf(int asked) {
            int k = kind;
            for (int step = 0; step < KINDS && isKind(k); step++) {
                if (k == asked) {
                    return true;
                }
                k = UNDER[k];
            }
            return false;
        }

        int goes(int drib, int cups, int[] strength) {
            if (cups < 1 || number < 0) {
                return 0;
            }
            switch (kind) {
                case POURER:
                    return (drib + number) % cups;
                case ZIGZAG:
                    return zigzag(drib, cups);
                case ROW:
                    return digits(drib, cups) % cups;
                case SLOW:
                    return zigzag(drib / (number + 1), cups);
                case TURNED:
                    return (digits(drib + number, cups) + 1) % cups;
                default:
                    return drib < number ? zigzag(drib, cups) : weakest(cups, strength);
            }
        }

        private static int zigzag(int drib, int cups) {
            int p = drib % cups;
            return drib / cups % 2 == 0 ? p : cups - 1 - p;
        }

        private static int digits(int drib, int cups) {
            int base = Math.max(cups, 2);
            int left = drib;
            int sum = 0;
            for (int k = 0; k < 32 && left > 0; k++) {
                sum += left % base;
                left /= base;
            }
            return sum;
        }

        private static int weakest(int cups, int[] strength) {
            int weakest = 0;
            for (int cup = 1; cup < cups; cup++) {
                if (strength[cup] < strength[weakest]) {
                    weakest = cup;
                }
            }
            return weakest;
        }
    }

    /** A row of numbers of a sort, or (of sort NONE) missing. */
    private static final class Sheet {
        private int sort = NONE;
        private int size = 0;
        private final int[] items = new int[ITEMS_MOST];

        void begin(int ofSort, int n) {
            sort = ofSort;
            size = n;
            Arrays.fill(items, 0);
        }

        boolean isMissing() {
            return sort == NONE;
        }

        boolean has(int i) {
            return i >= 0 && i < size;
        }

        /** A sum might wrap: so n is compared with the rest. */
        boolean hasAll(int from, int n) {
            return from >= 0 && n >= 0 && from <= size && n <= size - from;
        }

        void write(int i, int v) {
            switch (sort) {
                case 0:
                    items[i] = (byte) v;
                    break;
                case 1:
                    items[i] = (short) v;
                    break;
                default:
                    items[i] = v;
                    break;
            }
        }
    }

    /** What an image keeps. */
    private static final class Kept {
        private boolean there = false;
        private int cups;
        private int dribs;
        private int pourers;
        private int rule;
        private final int[] row = new int[DRIBS_MOST];
        private final int[] prices = new int[THINGS];
        private final int[] numbers = new int[POURERS_MOST];
    }

    /** Three formulas, each with its deeds behind what they are done to. */
    private static final class Text {
        private final int[] strong;
        private final int[] drips;
        private final int[] liked;

        Text(int[] strong, int[] drips, int[] liked) {
            this.strong = strong;
            this.drips = drips;
            this.liked = liked;
        }
    }

    /** Tells what a text says of a drib or a cup. */
    private static final class Teller {
        private final int[] names = new int[NAMES];
        private final int[] stack = new int[STACK_MOST];
        private Text text;

        Teller(Text text) {
            this.text = text;
        }

        void begin(Text by, int cups, int dribs) {
            text = by;
            names[CUPS_NAME] = cups;
            names[DRIBS_NAME] = dribs;
        }

        void look(int drib, int cup, int full, int was) {
            names[DRIB_NAME] = drib;
            names[CUP_NAME] = cup;
            names[FULL_NAME] = full;
            names[WAS_NAME] = was;
        }

        int strong() {
            return within(worth(text.strong), STRONG_MOST);
        }

        /** No more drips than the drib has. */
        int drips(int has) {
            return Math.min(within(worth(text.drips), DRIPS_MOST), has);
        }

        int liked() {
            return within(worth(text.liked), LIKED_MOST);
        }

        private static int within(int number, int most) {
            return Math.max(0, Math.min(number, most));
        }

        private int worth(int[] formula) {
            int height = 0;
            for (int k = 0; k < formula.length; k++) {
                int sign = formula[k];
                if (sign >= 0) {
                    if (height >= STACK_MOST) {
                        return 0;
                    }
                    stack[height] = sign < FIRST_NAME ? sign : named(sign - FIRST_NAME);
                    height++;
                } else if (sign == NOT || sign == NEGATE) {
                    if (height < 1) {
                        return 0;
                    }
                    int number = stack[height - 1];
                    stack[height - 1] = sign == NEGATE ? -number : number == 0 ? 1 : 0;
                } else {
                    if (height < 2) {
                        return 0;
                    }
                    height--;
                    stack[height - 1] = joined(sign, stack[height - 1], stack[height]);
                }
            }
            return height == 1 ? stack[0] : 0;
        }

        private int named(int name) {
            return name < NAMES ? names[name] : 0;
        }

        private static int joined(int deed, int left, int right) {
            switch (deed) {
                case OR:
                    return left != 0 || right != 0 ? 1 : 0;
                case AND:
                    return left != 0 && right != 0 ? 1 : 0;
                case LESS:
                    return left < right ? 1 : 0;
                case SAME:
                    return left == right ? 1 : 0;
                case PLUS:
                    return left + right;
                case MINUS:
                    return left - right;
                default:
                    return left * right;
            }
        }
    }

    /** THE TAPE, and the tokens that it splits into; behind them all stands END. */
    private static final class Tape {
        private final int[] bytes = new int[TAPE_MOST];
        private int size = 0;
        private final int[] tokens = new int[TAPE_MOST + 1];
        private final int[] places = new int[TAPE_MOST + 1];
        private int split = 0;

        void splitUp() {
            split = 0;
            int place = 0;
            // Each token or blank has a byte at least: so there are no more of them than bytes.
            for (int k = 0; k < TAPE_MOST && place < size; k++) {
                int behind = endOf(place);
                if (bytes[place] != ' ' && bytes[place] != '\n') {
                    tokens[split] = tokenOf(place, behind);
                    places[split] = place;
                    split++;
                }
                place = behind;
            }
            tokens[split] = END;
            places[split] = size;
        }

        private int endOf(int place) {
            int end = place + 1;
            if (isLetter(bytes[place])) {
                while (end < size && isLetter(bytes[end])) {
                    end++;
                }
            } else if (isDigit(bytes[place])) {
                while (end < size && isDigit(bytes[end])) {
                    end++;
                }
            }
            return end;
        }

        private int tokenOf(int place, int behind) {
            int first = bytes[place];
            if (isLetter(first)) {
                return wordOf(place, behind);
            }
            if (isDigit(first)) {
                return behind - place > DIGITS_MOST ? WRONG : numberOf(place, behind);
            }
            return isSign(first) ? -first : WRONG;
        }

        private int numberOf(int place, int behind) {
            int number = 0;
            for (int k = place; k < behind; k++) {
                number = number * 10 + bytes[k] - '0';
            }
            return number;
        }

        private int wordOf(int place, int behind) {
            int word = 0;
            int from = 0;
            for (int k = 0; k < WORDS.length(); k++) {
                if (WORDS.charAt(k) == ' ') {
                    if (k - from == behind - place && isSpelled(place, from, k)) {
                        return word < NAMES ? FIRST_NAME + word : -word;
                    }
                    word++;
                    from = k + 1;
                }
            }
            return WRONG;
        }

        private boolean isSpelled(int place, int from, int to) {
            for (int k = from; k < to; k++) {
                if (WORDS.charAt(k) != bytes[place + k - from]) {
                    return false;
                }
            }
            return true;
        }

        private static boolean isLetter(int b) {
            return b >= 'a' && b <= 'z';
        }

        private static boolean isDigit(int b) {
            return b >= '0' && b <= '9';
        }

        private static boolean isSign(int b) {
            switch (b) {
                case '(':
                case ')':
                case ';':
                case '+':
                case '-':
                case '*':
                case '<':
                case '=':
                    return true;
                default:
                    return false;
            }
        }
    }

    /** Reads THE TAPE as a text; behind a fault it goes no further, so that the token at hand is the faulty one. */
    private static final class Reader {
        private final Tape tape;
        private int hand = 0;
        private boolean faulty = false;
        private final int[] formula = new int[TAPE_MOST];
        private int length = 0;

        Reader(Tape tape) {
            this.tape = tape;
        }

        /** null: there is a fault. */
        Text read() {
            tape.splitUp();
            hand = 0;
            faulty = false;
            int[] strong = clause(STRONG);
            int[] drips = clause(DRIPS);
            int[] liked = clause(LIKED);
            if (token() != END) {
                faulty = true;
            }
            return faulty ? null : new Text(strong, drips, liked);
        }

        /** Of the token at hand. */
        int place() {
            return tape.places[hand];
        }

        private int token() {
            return tape.tokens[hand];
        }

        private void step() {
            if (!faulty && hand < tape.split) {
                hand++;
            }
        }

        private int[] clause(int key) {
            length = 0;
            demand(key);
            part(EITHER, 0);
            demand(STOP);
            return Arrays.copyOf(formula, length);
        }

        private void demand(int wanted) {
            if (token() != wanted) {
                faulty = true;
            }
            step();
        }

        private void part(int level, int open) {
            if (faulty) {
                return;
            }
            if (level >= ONE) {
                one(open);
                return;
            }
            if (level == COMPARED && token() == NOT) {
                inside(COMPARED, open);
                put(NOT);
                return;
            }
            part(level + 1, open);
            int most = level == COMPARED ? 1 : TAPE_MOST;
            for (int k = 0; k < most && !faulty && levelOf(token()) == level; k++) {
                int deed = token();
                step();
                part(level + 1, open);
                put(deed);
            }
        }

        private void one(int open) {
            int first = token();
            if (first >= 0) {
                put(first);
                step();
            } else if (first == MINUS) {
                inside(ONE, open);
                put(NEGATE);
            } else if (first == OPENING) {
                inside(EITHER, open);
                demand(CLOSING);
            } else {
                faulty = true;
            }
        }

        /** The token at hand opens a part. */
        private void inside(int level, int open) {
            if (open >= OPEN_MOST) {
                faulty = true;
                return;
            }
            step();
            part(level, open + 1);
        }

        private void put(int sign) {
            if (length < TAPE_MOST) {
                formula[length] = sign;
                length++;
            }
        }

        private static int levelOf(int token) {
            switch (token) {
                case OR:
                    return EITHER;
                case AND:
                    return BOTH;
                case LESS:
                case SAME:
                    return COMPARED;
                case PLUS:
                case MINUS:
                    return SUMMED;
                case STAR:
                    return TIMES;
                default:
                    return NONE;
            }
        }
    }

    /** What is in the cups while dribs are dropped, one by one. */
    private static final class Pouring {
        private final Teller teller;
        private final int[] full = new int[CUPS_MOST];
        private final int[] strength = new int[CUPS_MOST];
        private int cups;
        private int dribs;
        private int was;
        private int changes;
        private int dripped;

        Pouring(Teller teller) {
            this.teller = teller;
        }

        void begin(Text rule, int ofCups, int ofDribs) {
            teller.begin(rule, ofCups, ofDribs);
            cups = ofCups;
            dribs = ofDribs;
            was = NONE;
            changes = 0;
            dripped = 0;
            Arrays.fill(full, 0);
            Arrays.fill(strength, 0);
        }

        void drop(int drib, int cup, int stronger) {
            int ahead = was == NONE ? cup : was;
            teller.look(drib, cup, full[cup], ahead);
            int has = teller.strong() + stronger;
            if (cup != ahead) {
                int lost = teller.drips(has);
                has -= lost;
                dripped += lost;
                changes++;
            }
            full[cup]++;
            strength[cup] += has;
            was = cup;
        }

        int uneven() {
            return mostLessLeast(strength, cups);
        }

        int odd() {
            int sum = 0;
            for (int cup = 0; cup < cups; cup++) {
                sum += Math.abs(strength[cup] - wanted(cup));
            }
            return sum;
        }

        int wanted(int cup) {
            teller.look(dribs, cup, full[cup], cup);
            return teller.liked();
        }
    }

    /** Goes through all ways; one walk answers EVENEST and FEWEST till the rule, the cups or the dribs change. */
    private static final class Search {
        private final Teller teller;
        private final int[] gains = new int[GAINS_MOST];
        private final int[] full = new int[CUPS_MOST];
        private final int[] strength = new int[CUPS_MOST];
        private final int[] way = new int[DRIBS_MOST];
        private int rule = NONE;
        private int cups = 1;
        private int dribs = 0;
        /** How many dribs each cup of a balanced way has, and how many cups have one more. */
        private int each = 0;
        private int fullerMost = 0;

        private boolean evenestKnown = false;
        private final int[] evenestRow = new int[DRIBS_MOST];
        private int leastUneven = UNKNOWN;
        private int changesThen = UNKNOWN;
        /** For each number of changes the least uneven way. */
        private final int[] leastBy = new int[DRIBS_MOST + 1];

        private int tasted = 0;
        private int firstTasted = NONE;

        Search(Teller teller) {
            this.teller = teller;
        }

        void ready(int ruleNumber, Text text, int ofCups, int ofDribs) {
            if (ofCups < 1 || (rule == ruleNumber && cups == ofCups && dribs == ofDribs)) {
                return;
            }
            rule = ruleNumber;
            cups = ofCups;
            dribs = ofDribs;
            each = ofDribs / ofCups;
            fullerMost = ofDribs % ofCups;
            evenestKnown = false;
            teller.begin(text, cups, dribs);
            for (int drib = 0; drib < dribs; drib++) {
                for (int cup = 0; cup < cups; cup++) {
                    learnGains(drib, cup);
                }
            }
        }

        /** A drib's gain hangs on few numbers: so it is told once for each of them, not once for each way. */
        private void learnGains(int drib, int cup) {
            for (int in = 0; in <= drib; in++) {
                for (int was = 0; was < cups; was++) {
                    teller.look(drib, cup, in, was);
                    int gain = teller.strong();
                    if (cup != was) {
                        gain -= teller.drips(gain);
                    }
                    int place = gainPlace(drib, cup, in, was);
                    if (place < GAINS_MOST) {
                        gains[place] = gain;
                    }
                }
            }
        }

        private int gainPlace(int drib, int cup, int in, int was) {
            return ((drib * cups + cup) * (dribs + 1) + in) * cups + was;
        }

        private int gain(int drib, int cup, int was) {
            int place = gainPlace(drib, cup, full[cup], drib == 0 ? cup : was);
            return place < GAINS_MOST ? gains[place] : 0;
        }

        void findEvenest() {
            if (evenestKnown) {
                return;
            }
            evenestKnown = true;
            leastUneven = UNKNOWN;
            changesThen = UNKNOWN;
            Arrays.fill(leastBy, UNKNOWN);
            empty();
            tryBalanced(0, 0, 0);
        }

        int fewestChanges(int uneven) {
            for (int changes = 0; changes <= DRIBS_MOST; changes++) {
                if (leastBy[changes] <= uneven) {
                    return changes;
                }
            }
            return NONE;
        }

        private void empty() {
            Arrays.fill(full, 0);
            Arrays.fill(strength, 0);
        }

        private void tryBalanced(int drib, int was, int changes) {
            if (drib >= dribs) {
                judge(changes);
                return;
            }
            for (int cup = 0; cup < cups; cup++) {
                if (hasRoom(cup)) {
                    int gain = gain(drib, cup, was);
                    way[drib] = cup;
                    full[cup]++;
                    strength[cup] += gain;
                    tryBalanced(drib + 1, cup, drib > 0 && cup != was ? changes + 1 : changes);
                    full[cup]--;
                    strength[cup] -= gain;
                }
            }
        }

        /** Whether, with one drib more in the cup, all cups can still end at most 1 apart. */
        private boolean hasRoom(int cup) {
            if (full[cup] != each) {
                return full[cup] < each;
            }
            int fuller = 1;
            for (int other = 0; other < cups; other++) {
                if (full[other] > each) {
                    fuller++;
                }
            }
            return fuller <= fullerMost;
        }

        /** Ways come in their order: so of like ones the first stays. */
        private void judge(int changes) {
            int uneven = mostLessLeast(strength, cups);
            leastBy[changes] = Math.min(leastBy[changes], uneven);
            if (uneven < leastUneven || (uneven == leastUneven && changes < changesThen)) {
                leastUneven = uneven;
                changesThen = changes;
                System.arraycopy(way, 0, evenestRow, 0, dribs);
            }
        }

        void findTasted(int[] told) {
            tasted = 0;
            firstTasted = NONE;
            empty();
            tryTold(0, 0, 0, told);
        }

        private void tryTold(int drib, int was, int digits, int[] told) {
            if (drib >= dribs) {
                tellTasted(digits, told);
                return;
            }
            for (int cup = 0; cup < cups; cup++) {
                int gain = gain(drib, cup, was);
                // No drib takes strength away: what is too strong once stays so.
                if (strength[cup] + gain <= told[cup]) {
                    full[cup]++;
                    strength[cup] += gain;
                    tryTold(drib + 1, cup, digits * 10 + cup, told);
                    full[cup]--;
                    strength[cup] -= gain;
                }
            }
        }

        private void tellTasted(int digits, int[] told) {
            for (int cup = 0; cup < cups; cup++) {
                if (strength[cup] != told[cup]) {
                    return;
                }
            }
            if (tasted == 0) {
                firstTasted = digits;
            }
            tasted++;
        }
    }
}
