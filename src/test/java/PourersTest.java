/** Promises 17 to 20 and 33: poured, follow, which, captains, taken. */
public final class PourersTest {
    public static void main(String[] args) {
        rowsOfKinds();
        leastByRules();
        poured();
        follow();
        which();
        captains();
        taken();
        Due.finish();
    }

    /** The row that a pourer of a kind and number lays. */
    private static void lays(int cups, int dribs, int kind, int number, String want) {
        EvenlyPoured tea = new EvenlyPoured();
        tea.set(0, 0, cups);
        tea.set(1, 0, dribs);
        tea.pourer(0, 9 - number);
        tea.pourer(kind, number);
        StringBuilder row = new StringBuilder();
        for (int drib = 0; drib < dribs; drib++) {
            row.append(tea.poured(1, drib));
        }
        Due.same("kind " + kind + " number " + number + " cups " + cups, row.toString(), want);
    }

    private static void rowsOfKinds() {
        lays(3, 7, 0, 0, "0120120");
        lays(3, 7, 0, 2, "2012012");
        lays(4, 6, 0, 9, "123012");
        lays(1, 3, 0, 5, "000");
        lays(3, 10, 1, 0, "0122100122");
        lays(3, 10, 1, 4, "0122100122");
        lays(1, 3, 1, 0, "000");
        lays(2, 16, 2, 0, "0110100110010110");
        lays(3, 12, 2, 7, "012120201120");
        lays(4, 18, 2, 0, "012312302301301212");
        lays(1, 4, 2, 0, "0000");
        lays(2, 8, 3, 0, "01100110");
        lays(2, 8, 3, 1, "00111100");
        lays(3, 24, 3, 9, "000000000011111111112222");
        lays(2, 6, 4, 0, "100101");
        lays(2, 6, 4, 1, "001011");
        lays(3, 9, 4, 0, "120201012");
        lays(3, 6, 4, 2, "020101");
        lays(1, 4, 4, 3, "0000");
        // Strengths 1, 2, 3, ..: 1 | 2 | 3, 1 + 4 | 2 + 5 ..
        lays(2, 6, 5, 0, "010101");
        lays(3, 6, 5, 0, "012012");
        // As a ZIGZAG 0, 1, 1: 1 | 5, then 1 + 4 | 5, like: 0.
        lays(2, 6, 5, 3, "011001");
        lays(2, 6, 5, 9, "011001");
        // As a ZIGZAG 0, 1: 1 | 2, then 0, where a ZIGZAG would go on into 1.
        lays(2, 6, 5, 2, "010101");
        lays(1, 3, 5, 1, "000");
    }

    private static void leastByRules() {
        EvenlyPoured tea = new EvenlyPoured();
        tea.pourer(5, 0);
        tea.set(1, 0, 4);
        Due.rule(tea, "strong 5;drips 5;liked 0;");
        // 5 | 0, then all that goes into 1 drips: 1 stays least; no change goes on: 5 | 5, of like ones 0.
        Due.due("LEAST, drib 0", tea.poured(0, 0), 0);
        Due.due("LEAST, drib 1", tea.poured(0, 1), 1);
        Due.due("LEAST, drib 2", tea.poured(0, 2), 1);
        Due.due("LEAST, drib 3", tea.poured(0, 3), 0);
        Due.due("LEAST, uneven", tea.poured(0, -1), 0);
        tea.force(0);
        Due.due("LEAST by rule 0, drib 2", tea.poured(0, 2), 0);
    }

    private static void poured() {
        EvenlyPoured tea = new EvenlyPoured();
        Due.due("poured(0, 0), no pourer", tea.poured(0, 0), -2);
        tea.pourer(0, 1);
        Due.due("poured(0, 0)", tea.poured(0, 0), 1);
        Due.due("poured(0, 7)", tea.poured(0, 7), 0);
        Due.due("poured(0, 8)", tea.poured(0, 8), -2);
        Due.due("poured(0, -2)", tea.poured(0, -2), -2);
        Due.due("poured(1, 0)", tea.poured(1, 0), -2);
        Due.due("poured(-1, 0)", tea.poured(-1, 0), -2);
        Due.due("poured(0, -1)", tea.poured(0, -1), 4);
        Due.due("poured(1, -1)", tea.poured(1, -1), -2);
        Due.same("the row stays", Due.rowOf(tea), "00000000");
        tea.set(2, 0, 2);
        Due.due("poured(0, 0), number 2", tea.poured(0, 0), 0);
        tea.set(1, 0, 0);
        Due.due("poured(0, 0), no dribs", tea.poured(0, 0), -2);
        Due.due("poured(0, -1), no dribs", tea.poured(0, -1), 0);
    }

    private static void follow() {
        EvenlyPoured tea = new EvenlyPoured();
        Due.due("follow(0), no pourer", tea.follow(0), -2);
        tea.pourer(3, 1);
        tea.pourer(0, 1);
        Due.due("follow(1)", tea.follow(1), 4);
        Due.same("the row", Due.rowOf(tea), "10101010");
        Due.due("follow(0)", tea.follow(0), 0);
        Due.same("the row", Due.rowOf(tea), "00111100");
        Due.due("follow(2)", tea.follow(2), -2);
        Due.due("follow(-1)", tea.follow(-1), -2);
        Due.same("the row stays", Due.rowOf(tea), "00111100");
        tea.set(2, 0, 7);
        Due.same("the row stays as the number changes", Due.rowOf(tea), "00111100");
    }

    private static void which() {
        EvenlyPoured tea = new EvenlyPoured();
        Due.due("which(0), no pourer", tea.which(0), -1);
        Due.due("which(1), no pourer", tea.which(1), -1);
        Due.due("which(2), no pourer", tea.which(2), -2);
        tea.pourer(0, 0);
        Due.due("which(0)", tea.which(0), 0);
        Due.due("which(1)", tea.which(1), 4);
        tea.pourer(2, 0);
        tea.pourer(1, 0);
        Due.due("which(0), two are like", tea.which(0), 1);
        Due.due("which(1), two are like", tea.which(1), 0);
        Due.due("which(-1)", tea.which(-1), -2);
        Due.same("the row stays", Due.rowOf(tea), "00000000");
    }

    private static void captains() {
        EvenlyPoured tea = new EvenlyPoured();
        tea.set(0, 0, 3);
        int[] prices = {7, 50, 7, 99, 0, 50, 3, 1};
        for (int thing = 0; thing < 8; thing++) {
            tea.set(3, thing, prices[thing]);
        }
        Due.row(tea, "01220");
        // 99 to 0, 50 to 1, 50 to 2, 7 to 2, 7 to 0.
        Due.due("captains(0)", tea.captains(0), 106);
        Due.due("captains(1)", tea.captains(1), 50);
        Due.due("captains(2)", tea.captains(2), 57);
        Due.due("captains(-1)", tea.captains(-1), 56);
        Due.due("captains(3)", tea.captains(3), -2);
        Due.due("captains(-2)", tea.captains(-2), -2);
        Due.due("captains(0) again", tea.captains(0), 106);
        tea.set(1, 0, 24);
        tea.lay(8, 2);
        Due.due("none is left for drib 8", tea.captains(2), 0);
        Due.due("all to 0", tea.captains(0), 217);
        tea.lay(7, 1);
        Due.due("the last, of price 0", tea.captains(1), 0);
        tea.lay(6, 1);
        Due.due("the last but one, of price 1", tea.captains(1), 1);
        tea.set(1, 0, 0);
        Due.due("no dribs", tea.captains(-1), 0);
    }

    private static void taken() {
        EvenlyPoured tea = new EvenlyPoured();
        boolean[][] is = {
            {true, false, false, false, false, false},
            {true, true, false, false, false, false},
            {true, false, true, false, false, false},
            {true, true, false, true, false, false},
            {true, false, true, false, true, false},
            {true, true, false, false, false, true},
        };
        for (int kind = 0; kind < 6; kind++) {
            tea.pourer(kind, kind + 2);
        }
        for (int kind = 0; kind < 6; kind++) {
            for (int k = 0; k < 6; k++) {
                Due.due("taken(" + kind + ", " + k + ")", tea.taken(kind, k), is[kind][k] ? kind + 2 : -13);
            }
        }
        Due.due("taken(6, 0)", tea.taken(6, 0), -11);
        Due.due("taken(-1, 0)", tea.taken(-1, 0), -11);
        Due.due("taken(6, 6)", tea.taken(6, 6), -2);
        Due.due("taken(0, -1)", tea.taken(0, -1), -2);
        tea.set(2, 3, 0);
        Due.due("taken(3, 1), number 0", tea.taken(3, 1), 0);
    }
}
