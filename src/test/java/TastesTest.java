/** Promises 21 to 28: tastes, whom, forgotten, drawn, chance, image, back, count. */
public final class TastesTest {
    private static final long NO = -4611686018427387904L;

    public static void main(String[] args) {
        refusals();
        tastes();
        tastesByRules();
        whom();
        forgotten();
        forgottenByRules();
        drawn();
        chance();
        imageAndBack();
        backTwice();
        counts();
        Due.finish();
    }

    private static void refusals() {
        EvenlyPoured tea = new EvenlyPoured();
        Due.due("tastes(0, 2), missing", tea.tastes(0, 2), -2);
        Due.due("tastes(0, -1), missing", tea.tastes(0, -1), -2);
        Due.due("tastes(4, 0)", tea.tastes(4, 0), -2);
        Due.due("tastes(-1, 0)", tea.tastes(-1, 0), -2);
        Due.due("tastes(0, 0), missing", tea.tastes(0, 0), -11);
        Due.due("whom(4)", tea.whom(4), -2);
        Due.due("whom(-1)", tea.whom(-1), -2);
        Due.due("whom(3), missing", tea.whom(3), -11);
        Due.due("forgotten(4)", tea.forgotten(4), -2);
        Due.due("forgotten(-1)", tea.forgotten(-1), -2);
        Due.due("forgotten(3), missing", tea.forgotten(3), -11);
        Due.sheet(tea, 0, 2, 36, 0, 0);
        tea.set(1, 0, 24);
        Due.due("tastes(0, 0), 3 for 2 cups, 24 dribs", tea.tastes(0, 0), -2);
        Due.due("whom(0), 3 for 2 cups", tea.whom(0), -2);
        Due.due("forgotten(0), 3 for 2 cups", tea.forgotten(0), -2);
        Due.sheet(tea, 1, 2);
        Due.due("whom(1), none for 2 cups", tea.whom(1), -2);
        Due.sheet(tea, 2, 2, 300, 0);
        Due.due("tastes(2, 0), 24 dribs", tea.tastes(2, 0), -3);
        Due.due("tastes(3, 0), 24 dribs, missing", tea.tastes(3, 0), -11);
        tea.set(1, 0, 10);
        Due.due("tastes(2, 0), 10 dribs", tea.tastes(2, 0), -3);
        tea.set(1, 0, 9);
        Due.due("tastes(2, 0), 9 dribs", tea.tastes(2, 0), 0);
        tea.set(0, 0, 4);
        tea.set(1, 0, 9);
        Due.sheet(tea, 2, 2, 45, 0, 0, 0);
        Due.due("tastes(2, 0), 9 dribs into 4", tea.tastes(2, 0), -3);
        tea.set(1, 0, 8);
        Due.due("tastes(2, 0), 8 dribs into 4", tea.tastes(2, 0), 0);
        tea.set(0, 0, 1);
        tea.set(1, 0, 10);
        Due.sheet(tea, 2, 2, 55);
        Due.due("tastes(2, 0), 10 dribs into 1", tea.tastes(2, 0), -3);
    }

    private static void tastes() {
        EvenlyPoured tea = new EvenlyPoured();
        tea.lay(0, 1);
        tea.set(1, 0, 4);
        Due.sheet(tea, 0, 0, 5, 5);
        // 1 + 4 against 2 + 3, either way.
        Due.due("tastes(0, 0): 5, 5", tea.tastes(0, 0), 2);
        Due.due("tastes(0, 1): 5, 5", tea.tastes(0, 1), 110);
        Due.sheet(tea, 0, 1, 0, 10);
        Due.due("tastes(0, 0): 0, 10", tea.tastes(0, 0), 1);
        Due.due("tastes(0, 1): 0, 10", tea.tastes(0, 1), 1111);
        Due.sheet(tea, 0, 2, 10, 0);
        Due.due("tastes(0, 0): 10, 0", tea.tastes(0, 0), 1);
        Due.due("tastes(0, 1): 10, 0", tea.tastes(0, 1), 0);
        Due.sheet(tea, 0, 2, 10, 1);
        Due.due("tastes(0, 0): 10, 1", tea.tastes(0, 0), 0);
        Due.due("tastes(0, 1): 10, 1", tea.tastes(0, 1), -1);
        Due.sheet(tea, 0, 2, -1, 11);
        Due.due("tastes(0, 0): -1, 11", tea.tastes(0, 0), 0);
        tea.set(0, 0, 3);
        tea.set(1, 0, 9);
        Due.sheet(tea, 3, 1, 0, 0, 45);
        Due.due("tastes(3, 1): all into 2", tea.tastes(3, 1), 222222222);
        tea.set(0, 0, 4);
        tea.set(1, 0, 0);
        Due.sheet(tea, 3, 1, 0, 0, 0, 0);
        Due.due("tastes(3, 0), no dribs", tea.tastes(3, 0), 1);
        Due.due("tastes(3, 1), no dribs", tea.tastes(3, 1), 0);
    }

    private static void tastesByRules() {
        EvenlyPoured tea = new EvenlyPoured();
        tea.set(1, 0, 3);
        Due.rule(tea, "strong 5;drips 2;liked 0;");
        Due.sheet(tea, 0, 0, 8, 3);
        // 001: 10, 3. 010: 5 + 3, 3. 011: 5, 8. 100: 8, 5. 101: 3, 8.
        Due.due("drips: how many", tea.tastes(0, 0), 1);
        Due.due("drips: the first", tea.tastes(0, 1), 10);
        Due.sheet(tea, 0, 0, 8, 5);
        Due.due("drips: the other", tea.tastes(0, 1), 100);
        Due.rule(tea, "strong 0;drips 0;liked 0;");
        Due.sheet(tea, 0, 0, 0, 0);
        Due.due("all ways", tea.tastes(0, 0), 8);
        tea.set(0, 0, 4);
        tea.set(1, 0, 8);
        Due.sheet(tea, 0, 0, 0, 0, 0, 0);
        Due.due("65536 ways", tea.tastes(0, 0), 65536);
        Due.due("the first of them", tea.tastes(0, 1), 0);
        Due.rule(tea, "strong 100;drips 0;liked 0;");
        tea.set(0, 0, 1);
        tea.set(1, 0, 2);
        Due.sheet(tea, 0, 0, 200);
        Due.due("a byte has 127 at most", tea.tastes(0, 0), 0);
        Due.sheet(tea, 0, 1, 200);
        Due.due("a short has more", tea.tastes(0, 0), 1);
        Due.sheet(tea, 0, 1, 65536 + 200);
        Due.due("a short keeps 16 bits", tea.tastes(0, 0), 1);
        Due.sheet(tea, 0, 2, 65536 + 200);
        Due.due("an int keeps all", tea.tastes(0, 0), 0);
    }

    private static void whom() {
        EvenlyPoured tea = new EvenlyPoured();
        Due.sheet(tea, 0, 0, 18, 18);
        Due.due("whom(0), no pourer", tea.whom(0), 0);
        tea.pourer(0, 0);
        tea.pourer(1, 0);
        tea.pourer(2, 0);
        tea.pourer(0, 1);
        tea.pourer(0, 2);
        tea.pourer(3, 1);
        Due.due("whom(0): 18, 18", tea.whom(0), 2 + 4 + 32);
        Due.sheet(tea, 0, 2, 16, 20);
        Due.due("whom(0): 16, 20", tea.whom(0), 1 + 16);
        Due.sheet(tea, 0, 2, 20, 16);
        Due.due("whom(0): 20, 16", tea.whom(0), 8);
        Due.sheet(tea, 0, 2, 20, 17);
        Due.due("whom(0): 20, 17", tea.whom(0), 0);
        Due.same("the row stays", Due.rowOf(tea), "00000000");
    }

    private static void forgotten() {
        EvenlyPoured tea = new EvenlyPoured();
        tea.set(0, 0, 3);
        Due.row(tea, "01201");
        // 1 + 4 | 2 + 5 | 3.
        Due.sheet(tea, 0, 0, 5, 77, 3);
        Due.due("forgotten: 1", tea.forgotten(0), 1);
        Due.sheet(tea, 0, 0, 0, 7, 3);
        Due.due("forgotten: 0", tea.forgotten(0), 0);
        Due.sheet(tea, 0, 0, 5, 7, 0);
        Due.due("forgotten: 2", tea.forgotten(0), 2);
        Due.sheet(tea, 0, 0, 5, 7, 3);
        Due.due("all as told: the first", tea.forgotten(0), 0);
        Due.sheet(tea, 0, 0, 5, 0, 0);
        Due.due("forgotten: none by two", tea.forgotten(0), -1);
    }

    private static void forgottenByRules() {
        EvenlyPoured tea = new EvenlyPoured();
        tea.set(0, 0, 3);
        Due.rule(tea, "strong 10+drib+was*100;drips 1+was;liked 0;");
        Due.row(tea, "0121");
        // Without 1: 10 into 0, then drib 2 into 2 from 0: 12 less 1.
        Due.sheet(tea, 0, 1, 10, 0, 11);
        Due.due("was is the cup of the one poured ahead", tea.forgotten(0), 1);
        // Without 0: drib 1 is the first, from itself: 111; 112 less 2 into 2; 213 less 3 into 1.
        Due.sheet(tea, 0, 1, 9, 321, 110);
        Due.due("none was poured ahead", tea.forgotten(0), 0);
        // Without 2: 10; 11 less 1; 113 from itself.
        Due.sheet(tea, 0, 1, 10, 123, 9);
        Due.due("from itself no drips", tea.forgotten(0), 2);
        Due.rule(tea, "strong dribs*10+full;drips 0;liked 0;");
        Due.sheet(tea, 0, 1, 40, 0, 40);
        Due.due("dribs stay as many", tea.forgotten(0), 1);
    }

    /** DRAWN, told anew from the words: rule 0, a drib's strength its number and 1 more. */
    private static int lot(int seed, int off, String row) {
        int[] strength = new int[2];
        int z = seed;
        for (int drib = 0; drib < row.length(); drib++) {
            z = z * 1103515245 + 12345;
            strength[row.charAt(drib) - '0'] += drib + 1 + (z >>> 10) % (off + 1);
        }
        return Math.abs(strength[0] - strength[1]);
    }

    private static void drawn() {
        EvenlyPoured tea = new EvenlyPoured();
        String row = "01101001";
        Due.row(tea, row);
        int[] seeds = {0, 1, -1, 77, Integer.MAX_VALUE, Integer.MIN_VALUE};
        for (int seed : seeds) {
            for (int off = 0; off <= 20; off++) {
                Due.due("drawn(" + seed + ", " + off + ")", tea.drawn(seed, off), lot(seed, off, row));
            }
        }
        Due.due("drawn(0, 21)", tea.drawn(0, 21), -2);
        Due.due("drawn(0, -1)", tea.drawn(0, -1), -2);
        tea.set(1, 0, 0);
        Due.due("drawn(9, 9), no dribs", tea.drawn(9, 9), 0);
        Due.rule(tea, "strong 2000;drips 0;liked 0;");
        tea.set(1, 0, 1);
        int more = (1103515245 + 12345 >>> 10) % 21;
        Due.due("stronger than 999", tea.drawn(1, 20), 999 + more);
        Due.rule(tea, "strong 0;drips 999;liked 0;");
        Due.row(tea, "01");
        // What drib 1 has, it loses: drib 0 is told alone.
        Due.due("all that it has drips", tea.drawn(1, 20), more);
        Due.rule(tea, "strong 999;drips 2000;liked 0;");
        int moreThen = ((1103515245 + 12345) * 1103515245 + 12345 >>> 10) % 21;
        Due.due("999 drips at most", tea.drawn(1, 20), 999 + more - moreThen);
    }

    private static void chance() {
        EvenlyPoured tea = new EvenlyPoured();
        String row = "01101001";
        Due.row(tea, row);
        int[] seeds = {0, -3, 12345, Integer.MAX_VALUE - 2};
        for (int seed : seeds) {
            for (int n = 1; n <= 20; n++) {
                long sum = 0;
                for (int k = 0; k < n; k++) {
                    sum += lot(seed + k, 7, row);
                }
                long divisor = java.math.BigInteger.valueOf(sum).gcd(java.math.BigInteger.valueOf(n)).longValue();
                Due.due("chance(" + seed + ", " + n + ", 7, 0)", tea.chance(seed, n, 7, 0), sum / divisor);
                Due.due("chance(" + seed + ", " + n + ", 7, 1)", tea.chance(seed, n, 7, 1), n / divisor);
            }
        }
        Due.due("chance: 0 above", tea.chance(5, 20, 0, 0), 0);
        Due.due("chance: 1 below", tea.chance(5, 20, 0, 1), 1);
        Due.due("chance, n 0", tea.chance(0, 0, 0, 0), NO);
        Due.due("chance, n -1", tea.chance(0, -1, 0, 0), NO);
        Due.due("chance, n 21", tea.chance(0, 21, 0, 0), NO);
        Due.due("chance, off -1", tea.chance(0, 1, -1, 0), NO);
        Due.due("chance, off 21", tea.chance(0, 1, 21, 0), NO);
        Due.due("chance, part -1", tea.chance(0, 1, 0, -1), NO);
        Due.due("chance, part 2", tea.chance(0, 1, 0, 2), NO);
    }

    private static void imageAndBack() {
        EvenlyPoured tea = new EvenlyPoured();
        Due.due("back, no image", tea.back(), -3);
        tea.set(0, 0, 3);
        Due.row(tea, "01201");
        tea.set(3, 4, 44);
        tea.pourer(2, 3);
        tea.pourer(5, 4);
        Due.rule(tea, "strong 7;drips 0;liked 0;");
        Due.sheet(tea, 0, 0, 1, 2);
        Due.due("image", tea.image(), 5);
        tea.set(0, 0, 4);
        tea.set(1, 0, 9);
        tea.lay(0, 3);
        tea.set(3, 4, 45);
        tea.set(3, 5, 55);
        tea.set(2, 0, 9);
        tea.pourer(1, 1);
        Due.rule(tea, "strong 8;drips 0;liked 0;");
        tea.feed('x');
        Due.sheet(tea, 0, 1, 9);
        Due.due("back", tea.back(), 5);
        Due.due("cups", tea.count(0), 3);
        Due.due("dribs", tea.count(1), 5);
        Due.due("pourers", tea.count(2), 2);
        Due.due("texts stay", tea.count(3), 3);
        Due.due("tape stays", tea.count(4), 1);
        Due.due("rule", tea.count(5), 1);
        Due.same("row", Due.rowOf(tea), "01201");
        Due.due("price 4", tea.told(4, 2), 44);
        Due.due("price 5", tea.told(5, 2), 0);
        Due.due("number 0", tea.told(0, 0), 3);
        Due.due("kind 0", tea.told(0, 1), 2);
        Due.due("number 1", tea.told(1, 0), 4);
        Due.due("kind 1", tea.told(1, 1), 5);
        Due.due("number 2, gone", tea.told(2, 0), -2);
        Due.due("taken(2, 0), gone", tea.taken(2, 0), -11);
        Due.due("sheets stay", tea.cell(0, 1, 0), -12);
        Due.due("strength", tea.cup(0, 1), 14);
        Due.due("a new pourer", tea.pourer(4, 8), 2);
        Due.due("its kind", tea.told(2, 1), 4);
        Due.due("its number", tea.told(2, 0), 8);
    }

    private static void backTwice() {
        EvenlyPoured tea = new EvenlyPoured();
        Due.row(tea, "0110");
        Due.due("image", tea.image(), 4);
        tea.lay(0, 1);
        Due.due("back", tea.back(), 4);
        tea.lay(1, 0);
        tea.lay(2, 0);
        Due.due("back again", tea.back(), 4);
        Due.same("row", Due.rowOf(tea), "0110");
        tea.lay(3, 1);
        Due.due("another image", tea.image(), 4);
        tea.set(1, 0, 6);
        Due.due("back to the other", tea.back(), 4);
        Due.same("row of the other", Due.rowOf(tea), "0111");
        Due.due("evenest by what is back", tea.evenest(0), 0);
    }

    private static void counts() {
        EvenlyPoured tea = new EvenlyPoured();
        tea.set(0, 0, 4);
        tea.set(1, 0, 13);
        tea.pourer(0, 0);
        tea.pourer(0, 0);
        tea.pourer(0, 0);
        Due.rule(tea, "strong 1;drips 0;liked 0;");
        tea.feed(1);
        tea.feed(2);
        Due.due("count(0)", tea.count(0), 4);
        Due.due("count(1)", tea.count(1), 13);
        Due.due("count(2)", tea.count(2), 3);
        Due.due("count(3)", tea.count(3), 2);
        Due.due("count(4)", tea.count(4), 2);
        Due.due("count(5)", tea.count(5), 1);
        Due.due("count(6)", tea.count(6), -2);
        Due.due("count(-1)", tea.count(-1), -2);
    }
}
