/** The edges that the document names in promises 10 to 16: cup, all, mean, evenest, become, fewest, next. */
public final class PouringEdgesTest {
    private static final int BAD = Run.BAD, STATE = Run.STATE, NONE = -1;
    private static final long NO = Run.NO;
    private static final String WATER = "rule strong 0;drips 0;liked 0;";
    private static final String ALIKE = "rule strong 5;drips 0;liked 7;";
    private static final String RICH = "set 0 0 3, row 012021, pourer 3 4, set 3 0 9, "
        + "rule strong drib*2+cup+full;drips 1+was;liked 9+cup;, tell 0 0 1 2 0, image, lay 0 2, bytes strong 7;drips 0;liked 3;";
    /** CUPS, and the most dribs of which there are 65536 WAYS at most. */
    private static final int[][] MOST = {{2, 16}, {3, 10}, {4, 8}};

    public static void main(String[] args) {
        cupNumbers();
        cupsEmptyAndFull();
        allNumbers();
        unevenEdges();
        oddEdges();
        changesEdges();
        powers();
        meanNumbers();
        meanInLowestTerms();
        evenestNumbers();
        waysAreFew();
        waysAreTooMany();
        oneMoreAtMost();
        evenestOfLikeOnes();
        evenestAnew();
        become();
        fewestNumbers();
        fewestJustSo();
        nextNumbers();
        nextOfLikeOnes();
        nextIsOneMore();
        Due.finish();
    }

    /** "By THE ROW of a CUP: FULL (what 0), STRENGTH (1), liked (2). BAD." */
    private static void cupNumbers() {
        Run.of(RICH).bounds("cup _ 0", 0, 2, BAD).bounds("cup _ 2", 0, 2, BAD).bounds("cup 0 _", 0, 2, BAD).bounds("cup 2 _", 0, 2, BAD);
        Run.of("set 0 0 1").bounds("cup _ 1", 0, 0, BAD);
        Run.of("set 0 0 4").bounds("cup _ 1", 0, 3, BAD);
        Run.of("set 1 0 0").bounds("cup _ 2", 0, 1, BAD).bounds("cup 1 _", 0, 2, BAD);
    }

    private static void cupsEmptyAndFull() {
        Run.of("set 1 0 0").due("cup 0 0", 0).due("cup 0 1", 0).due("cup 0 2", 0).due("cup 1 0", 0).due("cup 1 1", 0);
        Run.of("set 1 0 24").due("cup 0 0", 24).due("cup 0 1", 300).due("cup 0 2", 72).due("cup 1 0", 0).due("cup 1 1", 0).due("cup 1 2", 72);
        Run.of("set 0 0 1, set 1 0 24, rule strong 999;drips 999;liked 9999;").due("cup 0 1", 24 * 999).due("cup 0 2", 9999);
        Run.of("set 0 0 4, set 1 0 1, lay 0 3").due("cup 3 0", 1).due("cup 3 1", 1).due("cup 0 0", 0);
    }

    /** "UNEVEN (what 0), ODD (1), CHANGES (2), strength that dripped (3), the greatest power .. (4 ..). BAD." */
    private static void allNumbers() {
        Run.of(RICH).bounds("all _", 0, 4, BAD);
        Run.of("set 0 0 1, set 1 0 0").bounds("all _", 0, 4, BAD);
        Run.of("set 1 0 0").due("all 0", 0).due("all 1", 0).due("all 2", 0).due("all 3", 0).due("all 4", 4);
        Run.of("set 1 0 0, set 0 0 4").due("all 0", 0).due("all 1", 0).due("all 2", 0).due("all 3", 0).due("all 4", 4);
    }

    /** "the most STRENGTH that any CUP has, less the least": an empty CUP has 0; one CUP alone has both. */
    private static void unevenEdges() {
        Run.of("set 0 0 1, set 1 0 24").due("all 0", 0);
        Run.of("set 1 0 1").due("all 0", 1).also("lay 0 1").due("all 0", 1);
        Run.of("set 0 0 4, row 012").due("all 0", 3);
        Run.of("set 0 0 4, row 3333").due("all 0", 10);
        Run.of("set 0 0 4, row 3120").due("all 0", 3);
        Run.of("set 0 0 4, row 0312").due("all 0", 3);
        Run.of("set 1 0 24, rule strong 999;drips 0;liked 0;").due("all 0", 24 * 999);
        Run.of("rule strong 0;drips 0;liked 0;").due("all 0", 0);
    }

    /** "how far STRENGTH of each CUP is from liked, all together": above and below. */
    private static void oddEdges() {
        Run.of("rule strong 9;drips 0;liked 10;, row 01").due("all 1", 1 + 1).also("row 00").due("all 1", 8 + 10);
        Run.of("rule strong 9;drips 0;liked 9;, row 01").due("all 1", 0).also("row 0").due("all 1", 9);
        Run.of("rule strong 9;drips 0;liked 8;, row 01").due("all 1", 1 + 1);
        Run.of("set 0 0 4, set 1 0 0, rule strong 0;drips 0;liked 9999;").due("all 1", 4 * 9999);
        Run.of("set 0 0 1, set 1 0 24, rule strong 999;drips 0;liked 0;").due("all 1", 24 * 999);
    }

    /** "how many dribs go into another CUP than the one ahead": the first has none ahead. */
    private static void changesEdges() {
        Run.of("row 1").due("all 2", 0).due("all 3", 0);
        Run.of("row 11").due("all 2", 0).also("row 10").due("all 2", 1).also("row 101").due("all 2", 2);
        Run.of("row 010101010101010101010101, rule strong 7;drips 3;liked 0;").due("all 2", 23).due("all 3", 23 * 3);
        Run.of("row 000000000000000000000001, rule strong 7;drips 9;liked 0;").due("all 2", 1).due("all 3", 7);
        Run.of("set 0 0 1, set 1 0 24, rule strong 7;drips 9;liked 0;").due("all 2", 0).due("all 3", 0);
    }

    /** "EVEN to a power k (0 .. 4): for each power j of 0 .. k .. (each number to the power 0 is 1)"; "NONE: not even 0" */
    private static void powers() {
        String[] rows = {"0", "00", "001", "11101001", "01", "10", "0011", "0000011111111000", "0110", "1001", "01101001",
            "0110100110010110", "011001110000110110101001", "011001110000110110101010"};
        int[] wants = {NONE, NONE, NONE, NONE, 0, 0, 0, 0, 1, 1, 2, 3, 3, 0};
        for (int k = 0; k < rows.length; k++) {
            Run.of("row " + rows[k]).due("all 4", wants[k]);
        }
        Run.of("set 0 0 3, row 012").due("all 4", 0).also("row 01").due("all 4", NONE).also("row 012120201").due("all 4", 1);
        Run.of("set 0 0 4, row 0123").due("all 4", 0).also("row 012").due("all 4", NONE).also("row 0123123023013012").due("all 4", 1);
        Run.of("set 0 0 1, row 0").due("all 4", 4).also("set 1 0 24").due("all 4", 4).also("set 1 0 0").due("all 4", 4);
        // The numbers of the dribs count, not what they are told to be.
        Run.of("row 01, " + ALIKE).due("all 0", 0).due("all 4", 0);
    }

    /** "NO: none such; it has no drib." */
    private static void meanNumbers() {
        Run.of("set 0 0 4, row 0123").bounds("mean _ 0", 0, 3, NO).bounds("mean _ 1", 0, 3, NO).bounds("mean 3 _", 0, 1, NO);
        Run.of("set 0 0 1, row 0").bounds("mean _ 0", 0, 0, NO).bounds("mean 0 _", 0, 1, NO);
        Run.of("row 0000").refused("mean 1 0", NO).refused("mean 1 1", NO).refused("mean 1 2", NO).refused("mean 2 0", NO);
        Run.of("row 1").refused("mean 0 0", NO).due("mean 1 0", 1).due("mean 1 1", 1);
        Run.of("set 1 0 0").refused("mean 0 0", NO).refused("mean 0 1", NO);
    }

    private static void mean(String setup, long above, long below) {
        Run.of(setup).due("mean 0 0", above).due("mean 0 1", below);
    }

    /** "part 0 above, 1 below the line, in lowest terms" */
    private static void meanInLowestTerms() {
        mean("row 0", 1, 1);
        mean("row 00", 3, 2);
        mean("row 000", 2, 1);
        mean("row 0000", 5, 2);
        mean("row 010100", 15, 4);
        mean("row 101010000", 6, 1);
        mean("set 1 0 24", 25, 2);
        mean("rule strong 0;drips 0;liked 0;, row 000", 0, 1);
        mean("rule strong 999;drips 0;liked 0;, set 1 0 24", 999, 1);
        mean("rule strong (drib=0)*6;drips 0;liked 0;, set 1 0 24", 1, 4);
        mean("rule strong (drib=0)*8;drips 0;liked 0;, row 000000000000", 2, 3);
    }

    /** "the CUP of drib what less 2 (2 .. 25; BAD: no such drib). BAD; STATE." */
    private static void evenestNumbers() {
        Run.of(RICH).bounds("evenest _", 0, 7, BAD);
        Run.of("set 0 0 1, set 1 0 24").bounds("evenest _", 0, 25, BAD);
        Run.of("set 1 0 0").bounds("evenest _", 0, 1, BAD);
        Run.of("set 1 0 1").bounds("evenest _", 0, 2, BAD);
        Run.of("set 1 0 24").refused("evenest 26", BAD).refused("evenest -1", BAD).refused("evenest 25", STATE).refused("evenest 0", STATE);
        Run.of("set 1 0 17").refused("evenest 19", BAD).refused("evenest 18", STATE).refused("evenest most", BAD).refused("evenest least", BAD);
        Run.of("set 1 0 0").due("evenest 0", 0).due("evenest 1", 0).due("become", 0).due("fewest 0", 0);
        Run.of("set 1 0 1").due("evenest 0", 1).due("evenest 1", 0).due("evenest 2", 0);
    }

    /** "(if these are 65536 at most" */
    private static void waysAreFew() {
        Run.of("set 0 0 2, set 1 0 16, " + ALIKE).due("evenest 0", 0).due("evenest 1", 1).due("evenest 9", 0).due("evenest 10", 1)
            .due("fewest 0", 1).due("become", 0).row("0000000011111111");
        Run.of("set 0 0 3, set 1 0 10, " + ALIKE).due("evenest 0", 5).due("evenest 1", 2).due("fewest 4", NONE).due("fewest 5", 2)
            .due("become", 5).row("0000111222");
        Run.of("set 0 0 4, set 1 0 8, " + ALIKE).due("evenest 0", 0).due("evenest 1", 3).due("fewest 0", 3).due("become", 0).row("00112233");
        Run.of("set 0 0 1, set 1 0 24, " + ALIKE).due("evenest 0", 0).due("evenest 1", 0).due("fewest 0", 0).due("become", 0);
    }

    /** "else STATE is told)", and nothing becomes otherwise. */
    private static void waysAreTooMany() {
        for (int[] most : MOST) {
            for (int dribs : new int[] {most[1] + 1, 23, 24}) {
                Run tea = Run.of("set 0 0 " + most[0] + ", set 1 0 " + dribs + ", lay 3 1");
                tea.refused("evenest 0", STATE).refused("evenest 1", STATE).refused("evenest " + (dribs + 1), STATE);
                tea.refused("evenest " + (dribs + 2), BAD).refused("become", STATE).refused("fewest 0", STATE);
                tea.refused("fewest 99999", STATE).refused("fewest 100000", BAD).refused("fewest -1", BAD);
            }
        }
    }

    /** "FULL of each CUP is at most 1 more than that of any other one": 1 more is taken, 2 more are not. */
    private static void oneMoreAtMost() {
        // 9 against 3 + 3 + 3 would be even.
        Run.of("row 0110, rule strong 3+(drib=0)*6;drips 0;liked 0;").due("evenest 0", 6).due("evenest 1", 1).due("fewest 5", NONE)
            .due("fewest 6", 1).due("become", 6).row("0011");
        // 6 against 3 + 3 is even, and 1 more.
        Run.of("row 011, rule strong 3+(drib=0)*3;drips 0;liked 0;").due("evenest 0", 0).due("fewest 0", 1).due("become", 0).row("011");
        // Of fewer dribs than CUPS none goes where one is.
        Run.of("set 0 0 4, row 000, " + ALIKE).due("evenest 0", 5).due("evenest 1", 2).due("fewest 99999", 2).due("become", 5).row("012");
        Run.of("set 0 0 4, row 0000, " + ALIKE).due("evenest 0", 0).due("evenest 1", 3).due("become", 0).row("0123");
        Run.of("set 0 0 4, row 00000, " + ALIKE).due("evenest 0", 5).due("evenest 1", 3).due("become", 5).row("00123");
        Run.of("set 0 0 3, row 00000, " + ALIKE).due("evenest 0", 5).due("evenest 1", 2).due("become", 5).row("00112");
        // Of dribs of no strength all rows are alike: no fewer changes than balance wants.
        String[] rows = {"0123", "00123", "001123", "0011223", "00112233"};
        for (String row : rows) {
            Run.of("set 0 0 4, set 1 0 " + row.length() + ", " + WATER).due("evenest 1", 3).due("fewest 0", 3).due("become", 0).row(row);
        }
        Run.of("set 0 0 3, set 1 0 4, " + WATER).due("evenest 1", 2).due("fewest 0", 2).due("become", 0).row("0012");
        Run.of("set 0 0 3, set 1 0 7, " + WATER).due("evenest 1", 2).due("fewest 0", 2).due("become", 0).row("0001122");
    }

    /** "of these those of fewest CHANGES; of these the first" */
    private static void evenestOfLikeOnes() {
        Run.of("row 1111, " + ALIKE).due("evenest 0", 0).due("evenest 1", 1).due("become", 0).row("0011");
        Run.of("row 11, " + ALIKE).due("become", 0).row("01");
        Run.of("row 1, " + ALIKE).due("become", 5).row("0");
        // The first drib changes nothing, whichever CUP it goes into: 10 is even by one change.
        Run.of("row 00, rule strong 9;drips (cup=1)*9;liked 0;").due("evenest 0", 0).due("evenest 1", 1).due("fewest 0", 1).due("become", 0).row("10")
            .due("evenest 2", 1).due("become", 0).row("10");
        // UNEVEN goes ahead of CHANGES: 0110 is even by two changes, 0011 is not by one.
        Run.of("row 0000").due("become", 0).row("0110");
        // 1 + 6 + 8, 2 + 4 + 5 + 7 and others are even as well: the fewest changes, then the first.
        Run.of("row 00000000").due("become", 0).row("00111100");
    }

    /** What was found once is not told again when CUPS, DRIBS or THE RULE have become others. */
    private static void evenestAnew() {
        Run tea = Run.of("read strong 5;drips 0;liked 0;, set 1 0 4").due("evenest 0", 0).due("evenest 1", 2).due("fewest 0", 2);
        tea.due("force 1", 0).due("evenest 1", 1).due("fewest 0", 1).due("force 0", 1).due("evenest 1", 2).due("fewest 0", 2);
        tea.due("set 0 0 4", 2).due("evenest 0", 3).due("evenest 1", 3).due("set 0 0 2", 4).due("evenest 0", 0).due("evenest 1", 2);
        tea.due("set 1 0 3", 4).due("evenest 1", 1).due("set 1 0 4", 3).due("evenest 1", 2).due("evenest 5", 0);
        tea.also("image, set 0 0 3, force 1").due("evenest 1", 2).due("fewest 4", NONE).due("back", 4).due("evenest 1", 2).due("fewest 0", 2);
        tea.also("tell 0 0 4 6").due("tastes 0 1", 101).due("evenest 1", 2).due("fewest 0", 2).due("next 1", 5).due("evenest 0", 0);
    }

    private static void become() {
        Run.of("set 0 0 3, row 000000").due("become", 0).row("012210").due("all 0", 0);
        Run.of("row 00000000").due("become", 0).due("all 0", 0).due("become", 0).row("00111100");
        Run.of("set 1 0 0").due("become", 0).row("");
        Run.of("row 0000, " + ALIKE).due("become", 0).due("count 0", 2).due("count 1", 4).due("count 5", 1);
    }

    /** "FEWEST, no more UNEVEN than v (0 .. 99999). BAD; STATE; NONE." */
    private static void fewestNumbers() {
        Run.of(RICH).bounds("fewest _", 0, 99999, BAD);
        Run.of("set 1 0 24").bounds("fewest _", 0, 99999, BAD);
        Run.of("set 1 0 0").bounds("fewest _", 0, 99999, BAD).due("fewest 0", 0);
    }

    /** "no more UNEVEN than told": as much is taken, one more is not. */
    private static void fewestJustSo() {
        Run.of("set 1 0 1").due("fewest 0", NONE).due("fewest 1", 0).due("fewest 2", 0).due("fewest 99999", 0);
        Run.of("set 1 0 8").due("fewest 0", 2).due("fewest 15", 2).due("fewest 16", 1).due("fewest 17", 1).due("fewest 99999", 1);
        Run.of("set 1 0 1, rule strong 999;drips 0;liked 0;").due("fewest 998", NONE).due("fewest 999", 0);
        Run.of("set 1 0 4").due("fewest 3", 2).due("fewest 4", 1);
        // 01, 10 and no more are balanced; 5 and 5 less 3.
        Run.of("set 1 0 2, rule strong 5;drips 3;liked 0;").due("fewest 2", NONE).due("fewest 3", 1);
    }

    /** "NEXT: the CUP (what 0), UNEVEN then (1). BAD; STATE: there are 24 dribs." */
    private static void nextNumbers() {
        Run.of(RICH).bounds("next _", 0, 1, BAD);
        Run.of("set 1 0 23").bounds("next _", 0, 1, BAD).due("next 0", 1).due("next 1", 276 - 24);
        Run.of("set 1 0 24").refused("next 0", STATE).refused("next 1", STATE).refused("next 2", BAD).refused("next -1", BAD);
        Run.of("set 0 0 1, set 1 0 24").refused("next 0", STATE).also("set 1 0 23").due("next 0", 0).due("next 1", 0);
        Run.of("set 1 0 0").due("next 0", 0).due("next 1", 1);
        Run.of("row 0110").refused("next 0", 0).refused("next 1", 5);
    }

    /** "of like ones the first" */
    private static void nextOfLikeOnes() {
        Run.of("set 0 0 4, set 1 0 0").due("next 0", 0).due("next 1", 1);
        Run.of("set 0 0 4, set 1 0 2, lay 1 1, " + ALIKE).due("next 0", 2).due("next 1", 5);
        Run.of("set 0 0 4, row 012, " + ALIKE).due("next 0", 3).due("next 1", 0);
        Run.of("set 0 0 3, row 00, " + ALIKE).due("next 0", 1).due("next 1", 10);
        Run.of("row 01, " + ALIKE).due("next 0", 0).due("next 1", 5);
    }

    /** "one drib more .. behind THE ROW (DRIBS being 1 more)" */
    private static void nextIsOneMore() {
        Run.of("set 1 0 23, rule strong (drib=23)*(dribs=24)*7;drips 0;liked 0;").due("next 0", 0).due("next 1", 7).due("count 1", 23);
        Run.of("row 01, rule strong 10;drips (was=1)*4;liked 0;").due("next 0", 0).due("next 1", 6);
        Run.of("row 1, rule strong 10*(full+1);drips 0;liked 0;").due("next 0", 0).due("next 1", 0);
        Run.of("row 01, rule strong dribs;drips 0;liked 0;").due("next 1", 3).due("all 0", 0).due("cup 0 1", 2);
    }
}
