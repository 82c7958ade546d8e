import java.util.ArrayList;
import java.util.Arrays;
import java.util.List;
import java.util.TreeMap;

/**
 * The document told a second time, in another way and without a thought of speed: all ways one after another,
 * formulas by two stacks, faults by what may stand where. ModelTest holds the class against it.
 */
final class Model {
    static final int NONE = -1, BAD = -2, STATE = -3, FULL = -4;
    static final long NO = -4611686018427387904L;

    private int cups = 2;
    private List<Integer> row = zeros(8);
    private int[] prices = new int[8];
    private List<int[]> pourers = new ArrayList<>();
    private final List<List<List<String>>> texts = new ArrayList<>();
    private int rule = 0;
    private StringBuilder tape = new StringBuilder();
    private final Object[] sheets = new Object[4];
    private Object[] kept = null;

    Model() {
        texts.add(parse("strong drib + 1 ; drips 0 ; liked dribs * 3 ;", new int[1]));
    }

    private static List<Integer> zeros(int n) {
        List<Integer> row = new ArrayList<>();
        for (int k = 0; k < n; k++) {
            row.add(0);
        }
        return row;
    }

    private static boolean in(int v, int least, int most) {
        return least <= v && v <= most;
    }

    // ---- cups, dribs, the row

    int set(int what, int of, int v) {
        int before;
        if (what == 0 && in(v, 1, 4)) {
            before = cups;
            cups = v;
            row = zeros(row.size());
        } else if (what == 1 && in(v, 0, 24)) {
            before = row.size();
            row = zeros(v);
        } else if (what == 2 && in(of, 0, pourers.size() - 1) && in(v, 0, 9)) {
            before = pourers.get(of)[1];
            pourers.get(of)[1] = v;
        } else if (what == 3 && in(of, 0, 7) && in(v, 0, 99)) {
            before = prices[of];
            prices[of] = v;
        } else {
            before = BAD;
        }
        return before;
    }

    int told(int of, int what) {
        if (in(what, 0, 1) && in(of, 0, pourers.size() - 1)) {
            return pourers.get(of)[1 - what];
        }
        return what == 2 && in(of, 0, 7) ? prices[of] : BAD;
    }

    int lay(int drib, int cup) {
        return in(drib, 0, row.size() - 1) && in(cup, 0, cups - 1) ? row.set(drib, cup) : BAD;
    }

    int at(int drib) {
        return in(drib, 0, row.size() - 1) ? row.get(drib) : BAD;
    }

    int pourer(int kind, int number) {
        if (!in(kind, 0, 5) || !in(number, 0, 9)) {
            return BAD;
        }
        if (pourers.size() == 6) {
            return FULL;
        }
        pourers.add(new int[] {kind, number});
        return pourers.size() - 1;
    }

    // ---- texts

    int feed(int letter) {
        if (!in(letter, 0, 255)) {
            return BAD;
        }
        if (tape.length() == 160) {
            return FULL;
        }
        tape.append((char) letter);
        return tape.length();
    }

    int text() {
        if (texts.size() == 6) {
            return FULL;
        }
        int[] fault = new int[1];
        List<List<String>> read = parse(tape.toString(), fault);
        tape = new StringBuilder();
        if (read == null) {
            return -100 - fault[0];
        }
        texts.add(read);
        return texts.size() - 1;
    }

    int force(int text) {
        if (!in(text, 0, texts.size() - 1)) {
            return BAD;
        }
        int before = rule;
        rule = text;
        return before;
    }

    /** The tokens of a text by their places; a byte that begins none is a token of its own. */
    private static TreeMap<Integer, String> tokens(String text) {
        TreeMap<Integer, String> tokens = new TreeMap<>();
        java.util.regex.Matcher next = java.util.regex.Pattern.compile("[a-z]+|[0-9]+|[^ \n]").matcher(text);
        while (next.find()) {
            tokens.put(next.start(), next.group());
        }
        return tokens;
    }

    private static boolean isOperand(String token) {
        return token.matches("[0-9]{1,4}|drib|dribs|cups|cup|full|was");
    }

    /** Three lists of tokens; or null, with the place of the fault. */
    static List<List<String>> parse(String text, int[] fault) {
        String[] keys = {"strong", "drips", "liked"};
        List<List<String>> clauses = new ArrayList<>();
        Clause open = null;
        for (var token : tokens(text).entrySet()) {
            String word = token.getValue();
            boolean stands;
            if (open == null) {
                stands = clauses.size() < 3 && word.equals(keys[clauses.size()]);
                open = new Clause();
            } else if (word.equals(";")) {
                stands = open.isWhole();
                clauses.add(open.tokens);
                open = null;
            } else {
                stands = open.takes(word);
            }
            if (!stands) {
                fault[0] = token.getKey();
                return null;
            }
        }
        if (open != null || clauses.size() < 3) {
            fault[0] = text.length();
            return null;
        }
        return clauses;
    }

    /** What may stand next in an E: told by what was, not by calls inside one another. */
    private static final class Clause {
        final List<String> tokens = new ArrayList<>();
        /** For each E that is open: nots, minuses, and whether a < or = stands in its NOT. */
        final List<int[]> levels = new ArrayList<>(List.of(new int[3]));
        boolean behindOne = false;
        boolean notMayStand = true;

        boolean isWhole() {
            return behindOne && levels.size() == 1;
        }

        private int opened() {
            int sum = levels.size() - 1;
            for (int[] level : levels) {
                sum += level[0] + level[1];
            }
            return sum;
        }

        boolean takes(String word) {
            int[] level = levels.get(levels.size() - 1);
            tokens.add(!behindOne && word.equals("-") ? "neg" : word);
            return behindOne ? takesBehindOne(word, level) : takesOne(word, level);
        }

        private boolean takesOne(String word, int[] level) {
            if (isOperand(word)) {
                behindOne = true;
                level[1] = 0;
                return true;
            }
            boolean opens = word.equals("(") || word.equals("-") || (word.equals("not") && notMayStand);
            if (!opens || opened() >= 5) {
                return false;
            }
            if (word.equals("(")) {
                levels.add(new int[3]);
                notMayStand = true;
            } else if (word.equals("-")) {
                level[1]++;
                notMayStand = false;
            } else {
                level[0]++;
            }
            return true;
        }

        private boolean takesBehindOne(String word, int[] level) {
            switch (word) {
                case ")":
                    if (levels.size() == 1) {
                        return false;
                    }
                    levels.remove(levels.size() - 1);
                    levels.get(levels.size() - 1)[1] = 0;
                    return true;
                case "or":
                case "and":
                    level[0] = 0;
                    level[2] = 0;
                    behindOne = false;
                    notMayStand = true;
                    return true;
                case "<":
                case "=":
                    if (level[2] == 1) {
                        return false;
                    }
                    level[2] = 1;
                    behindOne = false;
                    notMayStand = false;
                    return true;
                case "+":
                case "-":
                case "*":
                    behindOne = false;
                    notMayStand = false;
                    return true;
                default:
                    return false;
            }
        }
    }

    private static int rank(String deed) {
        return List.of("(", "or", "and", "not", "<=", "+-", "*", "neg").indexOf(
            deed.equals("<") || deed.equals("=") ? "<=" : deed.equals("+") || deed.equals("-") ? "+-" : deed);
    }

    /** By two stacks: of numbers, and of deeds that wait. names: drib dribs cups cup full was. */
    private static int worth(List<String> tokens, int... names) {
        ArrayList<Integer> numbers = new ArrayList<>();
        ArrayList<String> deeds = new ArrayList<>();
        List<String> known = List.of("drib", "dribs", "cups", "cup", "full", "was");
        for (String token : tokens) {
            if (known.contains(token)) {
                numbers.add(names[known.indexOf(token)]);
            } else if (Character.isDigit(token.charAt(0))) {
                numbers.add(Integer.parseInt(token));
            } else if (token.equals("(") || token.equals("not") || token.equals("neg")) {
                deeds.add(token);
            } else {
                int floor = token.equals(")") ? 1 : rank(token);
                while (!deeds.isEmpty() && rank(deeds.get(deeds.size() - 1)) >= floor) {
                    act(numbers, deeds.remove(deeds.size() - 1));
                }
                if (token.equals(")")) {
                    deeds.remove(deeds.size() - 1);
                } else {
                    deeds.add(token);
                }
            }
        }
        while (!deeds.isEmpty()) {
            act(numbers, deeds.remove(deeds.size() - 1));
        }
        return numbers.get(0);
    }

    private static void act(ArrayList<Integer> numbers, String deed) {
        int b = numbers.remove(numbers.size() - 1);
        if (deed.equals("neg")) {
            numbers.add(-b);
        } else if (deed.equals("not")) {
            numbers.add(b == 0 ? 1 : 0);
        } else {
            int a = numbers.remove(numbers.size() - 1);
            boolean is = switch (deed) {
                case "or" -> a != 0 || b != 0;
                case "and" -> a != 0 && b != 0;
                case "<" -> a < b;
                case "=" -> a == b;
                default -> false;
            };
            numbers.add(switch (deed) {
                case "+" -> a + b;
                case "-" -> a - b;
                case "*" -> a * b;
                default -> is ? 1 : 0;
            });
        }
    }

    private static int bound(int v, int most) {
        return v < 0 ? 0 : v > most ? most : v;
    }

    // ---- pouring

    /** A row that is poured: drib NONE's place is left out. */
    private final class Tea {
        final int[] full = new int[cups];
        final int[] strength = new int[cups];
        int changes = 0;
        int dripped = 0;

        Tea(List<Integer> poured, int leftOut, int[] stronger) {
            int was = NONE;
            for (int drib = 0; drib < poured.size(); drib++) {
                int cup = poured.get(drib);
                if (cup == leftOut) {
                    continue;
                }
                int ahead = was == NONE ? cup : was;
                List<List<String>> text = texts.get(rule);
                int has = bound(worth(text.get(0), drib, poured.size(), cups, cup, full[cup], ahead), 999);
                has += stronger == null ? 0 : stronger[drib];
                if (cup != ahead) {
                    int drips = bound(worth(text.get(1), drib, poured.size(), cups, cup, full[cup], ahead), 999);
                    int lost = drips > has ? has : drips;
                    has -= lost;
                    dripped += lost;
                    changes++;
                }
                full[cup]++;
                strength[cup] += has;
                was = cup;
            }
        }

        int uneven() {
            return Arrays.stream(strength).max().getAsInt() - Arrays.stream(strength).min().getAsInt();
        }

        boolean isBalanced() {
            return Arrays.stream(full).max().getAsInt() - Arrays.stream(full).min().getAsInt() <= 1;
        }

        int liked(int cup) {
            return bound(worth(texts.get(rule).get(2), row.size(), row.size(), cups, cup, full[cup], cup), 9999);
        }
    }

    private Tea tea(List<Integer> poured) {
        return new Tea(poured, NONE, null);
    }

    int cup(int cup, int what) {
        if (!in(cup, 0, cups - 1) || !in(what, 0, 2)) {
            return BAD;
        }
        Tea tea = tea(row);
        return what == 0 ? tea.full[cup] : what == 1 ? tea.strength[cup] : tea.liked(cup);
    }

    int all(int what) {
        if (!in(what, 0, 4)) {
            return BAD;
        }
        Tea tea = tea(row);
        int odd = 0;
        for (int cup = 0; cup < cups; cup++) {
            odd += Math.abs(tea.strength[cup] - tea.liked(cup));
        }
        return new int[] {tea.uneven(), odd, tea.changes, tea.dripped, power()}[what];
    }

    private int power() {
        int power = 0;
        while (power <= 4) {
            long[] sums = new long[cups];
            for (int drib = 0; drib < row.size(); drib++) {
                sums[row.get(drib)] += (long) Math.pow(drib, power);
            }
            if (Arrays.stream(sums).distinct().count() > 1) {
                break;
            }
            power++;
        }
        return power - 1;
    }

    private static long lowest(long above, long below, int part) {
        for (long d = below; d >= 1; d--) {
            if (above % d == 0 && below % d == 0) {
                return part == 0 ? above / d : below / d;
            }
        }
        throw new IllegalStateException();
    }

    long mean(int cup, int part) {
        if (!in(cup, 0, cups - 1) || !in(part, 0, 1) || tea(row).full[cup] == 0) {
            return NO;
        }
        return lowest(tea(row).strength[cup], tea(row).full[cup], part);
    }

    private boolean tooMany() {
        return Math.pow(cups, row.size()) > 65536;
    }

    private List<Integer> way(int number) {
        List<Integer> way = zeros(row.size());
        int rest = number;
        for (int k = row.size() - 1; k >= 0; k--) {
            way.set(k, rest % cups);
            rest /= cups;
        }
        return way;
    }

    private List<Integer> evenestWay() {
        List<Integer> best = null;
        for (int number = 0; number < Math.pow(cups, row.size()); number++) {
            List<Integer> way = way(number);
            Tea tea = tea(way);
            if (tea.isBalanced() && (best == null || tea.uneven() < tea(best).uneven()
                || (tea.uneven() == tea(best).uneven() && tea.changes < tea(best).changes))) {
                best = way;
            }
        }
        return best;
    }

    int evenest(int what) {
        if (!in(what, 0, 25) || (what >= 2 && what - 2 >= row.size())) {
            return BAD;
        }
        if (tooMany()) {
            return STATE;
        }
        List<Integer> way = evenestWay();
        return what == 0 ? tea(way).uneven() : what == 1 ? tea(way).changes : way.get(what - 2);
    }

    int become() {
        if (tooMany()) {
            return STATE;
        }
        row = evenestWay();
        return tea(row).uneven();
    }

    int fewest(int v) {
        if (!in(v, 0, 99999)) {
            return BAD;
        }
        if (tooMany()) {
            return STATE;
        }
        int best = NONE;
        for (int number = 0; number < Math.pow(cups, row.size()); number++) {
            Tea tea = tea(way(number));
            if (tea.isBalanced() && tea.uneven() <= v && (best == NONE || tea.changes < best)) {
                best = tea.changes;
            }
        }
        return best;
    }

    int next(int what) {
        if (!in(what, 0, 1)) {
            return BAD;
        }
        if (row.size() == 24) {
            return STATE;
        }
        int[] uneven = new int[cups];
        for (int cup = 0; cup < cups; cup++) {
            List<Integer> more = new ArrayList<>(row);
            more.add(cup);
            uneven[cup] = tea(more).uneven();
        }
        int least = Arrays.stream(uneven).min().getAsInt();
        int first = 0;
        while (uneven[first] != least) {
            first++;
        }
        return what == 0 ? first : least;
    }

    // ---- pourers

    private int zigzag(int drib) {
        List<Integer> there = new ArrayList<>();
        for (int turn = 0; there.size() <= drib; turn++) {
            for (int cup = 0; cup < cups; cup++) {
                there.add(turn % 2 == 0 ? cup : cups - 1 - cup);
            }
        }
        return there.get(drib);
    }

    private int digits(int drib) {
        return Integer.toString(drib, cups == 1 ? 2 : cups).chars().map(c -> c - '0').sum() % cups;
    }

    private List<Integer> rowBy(int[] pourer) {
        List<Integer> poured = new ArrayList<>();
        for (int drib = 0; drib < row.size(); drib++) {
            int number = pourer[1];
            poured.add(switch (pourer[0]) {
                case 0 -> (drib + number) % cups;
                case 1 -> zigzag(drib);
                case 2 -> digits(drib);
                case 3 -> zigzag(drib / (number + 1));
                case 4 -> (digits(drib + number) + 1) % cups;
                default -> drib < number ? zigzag(drib) : leastAfter(poured);
            });
        }
        return poured;
    }

    /** Strengths by then: dribs of the whole row are told, though not all are poured. */
    private int leastAfter(List<Integer> poured) {
        List<Integer> padded = new ArrayList<>(poured);
        while (padded.size() < row.size()) {
            padded.add(99);
        }
        int[] strength = new Tea(padded, 99, null).strength;
        int first = 0;
        for (int cup = 1; cup < cups; cup++) {
            first = strength[cup] < strength[first] ? cup : first;
        }
        return first;
    }

    int poured(int pourer, int drib) {
        if (!in(pourer, 0, pourers.size() - 1) || !in(drib, -1, row.size() - 1)) {
            return BAD;
        }
        List<Integer> by = rowBy(pourers.get(pourer));
        return drib == NONE ? tea(by).uneven() : by.get(drib);
    }

    int follow(int pourer) {
        if (!in(pourer, 0, pourers.size() - 1)) {
            return BAD;
        }
        row = rowBy(pourers.get(pourer));
        return tea(row).uneven();
    }

    int which(int what) {
        if (!in(what, 0, 1)) {
            return BAD;
        }
        int best = NONE;
        for (int k = pourers.size() - 1; k >= 0; k--) {
            if (best == NONE || poured(k, NONE) <= poured(best, NONE)) {
                best = k;
            }
        }
        return what == 0 || best == NONE ? best : poured(best, NONE);
    }

    int captains(int captain) {
        if (!in(captain, -1, cups - 1)) {
            return BAD;
        }
        int[] dear = Arrays.stream(prices).map(p -> -p).sorted().map(p -> -p).toArray();
        int[] has = new int[cups];
        for (int drib = 0; drib < row.size() && drib < 8; drib++) {
            has[row.get(drib)] += dear[drib];
        }
        return captain >= 0 ? has[captain] : Arrays.stream(has).max().getAsInt() - Arrays.stream(has).min().getAsInt();
    }

    // ---- tastes

    private int sizeOf(Object sheet) {
        return java.lang.reflect.Array.getLength(sheet);
    }

    private boolean isSo(Object sheet, Tea tea, int butFor) {
        for (int cup = 0; cup < cups; cup++) {
            if (cup != butFor && java.lang.reflect.Array.getInt(sheet, cup) != tea.strength[cup]) {
                return false;
            }
        }
        return true;
    }

    private int refusal(int sheet, boolean whatIsFine) {
        if (!in(sheet, 0, 3) || !whatIsFine) {
            return BAD;
        }
        return sheets[sheet] == null ? -11 : sizeOf(sheets[sheet]) != cups ? BAD : 0;
    }

    int tastes(int sheet, int what) {
        int refusal = refusal(sheet, in(what, 0, 1));
        if (refusal != 0) {
            return refusal;
        }
        if (row.size() > 9 || tooMany()) {
            return STATE;
        }
        int many = 0;
        int first = NONE;
        for (int number = (int) Math.pow(cups, row.size()) - 1; number >= 0; number--) {
            List<Integer> way = way(number);
            if (isSo(sheets[sheet], tea(way), NONE)) {
                many++;
                StringBuilder digits = new StringBuilder("0");
                way.forEach(digits::append);
                first = Integer.parseInt(digits.toString());
            }
        }
        return what == 0 ? many : first;
    }

    int whom(int sheet) {
        int refusal = refusal(sheet, true);
        if (refusal != 0) {
            return refusal;
        }
        int bits = 0;
        for (int k = 0; k < pourers.size(); k++) {
            bits += isSo(sheets[sheet], tea(rowBy(pourers.get(k))), NONE) ? 1 << k : 0;
        }
        return bits;
    }

    int forgotten(int sheet) {
        int refusal = refusal(sheet, true);
        if (refusal != 0) {
            return refusal;
        }
        for (int cup = 0; cup < cups; cup++) {
            if (isSo(sheets[sheet], new Tea(row, cup, null), cup)) {
                return cup;
            }
        }
        return NONE;
    }

    int drawn(int seed, int off) {
        if (!in(off, 0, 20)) {
            return BAD;
        }
        int[] stronger = new int[row.size()];
        int z = seed;
        for (int drib = 0; drib < row.size(); drib++) {
            z = z * 1103515245 + 12345;
            stronger[drib] = (z >>> 10) % (off + 1);
        }
        return new Tea(row, NONE, stronger).uneven();
    }

    long chance(int seed, int n, int off, int part) {
        if (!in(n, 1, 20) || !in(off, 0, 20) || !in(part, 0, 1)) {
            return NO;
        }
        long sum = 0;
        for (int k = 0; k < n; k++) {
            sum += drawn(seed + k, off);
        }
        return lowest(sum, n, part);
    }

    int image() {
        List<Integer> numbers = new ArrayList<>();
        pourers.forEach(p -> numbers.add(p[1]));
        kept = new Object[] {cups, new ArrayList<>(row), prices.clone(), numbers, rule};
        return row.size();
    }

    @SuppressWarnings("unchecked")
    int back() {
        if (kept == null) {
            return STATE;
        }
        cups = (Integer) kept[0];
        row = new ArrayList<>((List<Integer>) kept[1]);
        prices = ((int[]) kept[2]).clone();
        List<Integer> numbers = (List<Integer>) kept[3];
        pourers = new ArrayList<>(pourers.subList(0, numbers.size()));
        for (int k = 0; k < numbers.size(); k++) {
            pourers.get(k)[1] = numbers.get(k);
        }
        rule = (Integer) kept[4];
        return row.size();
    }

    int count(int what) {
        int[] counts = {cups, row.size(), pourers.size(), texts.size(), tape.length(), rule};
        return in(what, 0, 5) ? counts[what] : BAD;
    }

    // ---- the host: here it throws itself

    int sheet(int sheet, int sort, int n) {
        if (!in(sheet, 0, 3) || !in(sort, -1, 2) || (sort >= 0 && n > 40)) {
            return BAD;
        }
        try {
            sheets[sheet] = sort == -1 ? null : sort == 0 ? new byte[n] : sort == 1 ? new short[n] : new int[n];
            return 1;
        } catch (NegativeArraySizeException e) {
            return -14;
        }
    }

    int cell(int sheet, int i, int v) {
        if (!in(sheet, 0, 3)) {
            return BAD;
        }
        try {
            if (sheets[sheet] instanceof byte[] bytes) {
                bytes[i] = (byte) v;
            } else if (sheets[sheet] instanceof short[] shorts) {
                shorts[i] = (short) v;
            } else {
                ((int[]) sheets[sheet])[i] = v;
            }
            return 1;
        } catch (NullPointerException e) {
            return -11;
        } catch (ArrayIndexOutOfBoundsException e) {
            return -12;
        }
    }

    int copy(int sheet, int i, int other, int j, int n) {
        if (!in(sheet, 0, 3) || !in(other, 0, 3)) {
            return BAD;
        }
        try {
            System.arraycopy(sheets[sheet], i, sheets[other], j, n);
            return n;
        } catch (NullPointerException e) {
            return -11;
        } catch (ArrayStoreException e) {
            return -13;
        } catch (IndexOutOfBoundsException e) {
            return -12;
        }
    }

    int rows(int sheet, int sort, int from, int n) {
        if (!in(sheet, 0, 3) || !in(sort, 0, 2) || !in(n, 0, 24)) {
            return BAD;
        }
        try {
            Object taken = (sort == 0 ? byte[].class : sort == 1 ? short[].class : int[].class).cast(sheets[sheet]);
            sizeOf(taken);
            int became = 0;
            for (int k = 0; k < n; k++) {
                int cup = java.lang.reflect.Array.getInt(taken, from + k);
                became += lay(k, cup) == BAD ? 0 : 1;
            }
            return became;
        } catch (ClassCastException e) {
            return -13;
        } catch (NullPointerException e) {
            return -11;
        } catch (ArrayIndexOutOfBoundsException e) {
            return -12;
        }
    }

    private static class K0 {
    }

    private static class K1 extends K0 {
    }

    private static class K2 extends K0 {
    }

    private static final class K3 extends K1 {
    }

    private static final class K4 extends K2 {
    }

    private static final class K5 extends K1 {
    }

    int taken(int pourer, int k) {
        if (!in(k, 0, 5)) {
            return BAD;
        }
        if (!in(pourer, 0, pourers.size() - 1)) {
            return -11;
        }
        Object[] ofKind = {new K0(), new K1(), new K2(), new K3(), new K4(), new K5()};
        boolean is = ofKind[k].getClass().isInstance(ofKind[pourers.get(pourer)[0]]);
        return is ? pourers.get(pourer)[1] : -13;
    }
}
