/** The edges that the document names in promises 17 to 20 and 33: poured, follow, which, captains, taken. */
public final class PourersEdgesTest {
    private static final int BAD = Run.BAD, NOTHING = Run.NOTHING, OTHER = Run.OTHER, NONE = -1;
    private static final String RICH = "set 0 0 3, row 012021, pourer 3 4, pourer 5 2, set 3 0 9, set 3 7 98, "
        + "rule strong drib*2+cup+full;drips 1+was;liked 9+cup;, tell 0 0 1 2 0, image, lay 0 2, bytes strong 7;drips 0;liked 3;";
    private static final String SIX = "pourer 0 0, pourer 1 1, pourer 2 2, pourer 3 3, pourer 4 4, pourer 5 5";

    public static void main(String[] args) {
        pouredNumbers();
        pourersByNumber();
        zigzags();
        rowsByDigits();
        slowOnes();
        turnedOnes();
        leastOnes();
        follow();
        whichNumbers();
        whichOfLikeOnes();
        captainNumbers();
        captainsEdges();
        takenNumbers();
        takenKinds();
        Due.finish();
    }

    /** "Where drib i is POURED by a POURER; drib NONE: UNEVEN by that. BAD." */
    private static void pouredNumbers() {
        Run.of(RICH).bounds("poured 0 _", -1, 5, BAD).bounds("poured _ 0", 0, 1, BAD).bounds("poured _ -1", 0, 1, BAD);
        Run.of(SIX, "set 0 0 4, set 1 0 24").bounds("poured 5 _", -1, 23, BAD).bounds("poured _ 23", 0, 5, BAD);
        Run.of("pourer 0 0, set 1 0 0").bounds("poured 0 _", -1, -1, BAD).due("poured 0 -1", 0);
        Run.of("").refused("poured 0 0", BAD).refused("poured 0 -1", BAD);
        Run.of("row 0110, pourer 0 1").refused("poured 0 0", 1).refused("poured 0 -1", 2);
    }

    /** The whole row of 24 dribs by a pourer of a kind. */
    private static void lays(int cups, int kind, int number, String want) {
        Run tea = Run.of("set 0 0 " + cups + ", set 1 0 24, pourer " + kind + " " + number);
        for (int drib = 0; drib < 24; drib++) {
            tea.due("poured 0 " + drib, want.charAt(drib) - '0');
        }
        tea.also("follow 0").row(want);
    }

    /** "POURER: (i and NUMBER) modulo c" */
    private static void pourersByNumber() {
        lays(1, 0, 0, "000000000000000000000000");
        lays(1, 0, 9, "000000000000000000000000");
        lays(2, 0, 0, "010101010101010101010101");
        lays(2, 0, 9, "101010101010101010101010");
        lays(3, 0, 1, "120120120120120120120120");
        lays(3, 0, 9, "012012012012012012012012");
        lays(4, 0, 0, "012301230123012301230123");
        lays(4, 0, 9, "123012301230123012301230");
    }

    /** "p, i by c (cut) being even, else c less 1 less p"; its NUMBER does not matter. */
    private static void zigzags() {
        lays(1, 1, 0, "000000000000000000000000");
        lays(2, 1, 0, "011001100110011001100110");
        lays(3, 1, 9, "012210012210012210012210");
        lays(4, 1, 5, "012332100123321001233210");
    }

    /** "the digits of i, written by c (by 2, if c is 1), together, modulo c" */
    private static void rowsByDigits() {
        lays(1, 2, 0, "000000000000000000000000");
        lays(2, 2, 9, "011010011001011010010110");
        lays(3, 2, 0, "012120201120201012201012");
        lays(4, 2, 3, "012312302301301212302301");
    }

    /** "as a ZIGZAG would drib (i by (NUMBER and 1), cut)" */
    private static void slowOnes() {
        lays(1, 3, 9, "000000000000000000000000");
        lays(2, 3, 0, "011001100110011001100110");
        lays(2, 3, 1, "001111000011110000111100");
        lays(2, 3, 9, "000000000011111111111111");
        lays(3, 3, 9, "000000000011111111112222");
        lays(4, 3, 0, "012332100123321001233210");
        lays(4, 3, 1, "001122333322110000112233");
    }

    /** "as a ROW would drib (i and NUMBER), and 1 more, modulo c" */
    private static void turnedOnes() {
        lays(1, 4, 0, "000000000000000000000000");
        lays(1, 4, 9, "000000000000000000000000");
        lays(2, 4, 0, "100101100110100101101001");
        lays(2, 4, 9, "110100101101001100101100");
        lays(3, 4, 9, "201012120012120201201012");
        lays(4, 4, 0, "123023013012012323013012");
        lays(4, 4, 9, "012012323013012012312303");
    }

    /** "the CUP that has least strength by then (of like ones the first), but as a ZIGZAG, if i is below NUMBER" */
    private static void leastOnes() {
        lays(1, 5, 0, "000000000000000000000000");
        lays(2, 5, 0, "010101010101010101010101");
        lays(2, 5, 2, "010101010101010101010101");
        lays(2, 5, 3, "011001010101010101010101");
        lays(2, 5, 9, "011001100101010101010101");
        lays(3, 5, 9, "012210012012012012012012");
        lays(4, 5, 0, "012301230123012301230123");
        // All of no strength: always the first.
        Run.of("set 0 0 4, pourer 5 0, rule strong 0;drips 0;liked 0;, follow 0").row("00000000");
        Run.of("set 0 0 4, pourer 5 3, rule strong 0;drips 0;liked 0;, follow 0").row("01200000");
        // What drips is not in the CUP: 0, then 1, where nothing stays till none changes.
        Run.of("pourer 5 0, rule strong 5;drips 5;liked 0;, row 00000, follow 0").row("01100");
        Run.of("pourer 5 0, rule strong 5;drips 4;liked 0;, row 00000, follow 0").row("01100");
        Run.of("pourer 5 0, rule strong 5;drips 0;liked 0;, row 00000, follow 0").row("01010");
    }

    /** "THE ROW truly becomes as it is POURED by a POURER: UNEVEN. BAD." */
    private static void follow() {
        Run.of(RICH).bounds("follow _", 0, 1, BAD);
        Run.of(SIX).bounds("follow _", 0, 5, BAD);
        Run.of("row 0110").refused("follow 0", BAD).refused("follow -1", BAD);
        Run.of("set 1 0 0, pourer 5 9").due("follow 0", 0).row("");
        Run.of("set 1 0 1, pourer 4 0").due("follow 0", 1).row("1");
        Run.of("pourer 0 1, set 1 0 24, follow 0").due("set 1 0 2", 24).row("00").due("follow 0", 1).row("10");
    }

    /** "WHICH (what 0), UNEVEN by that (1). BAD; NONE." */
    private static void whichNumbers() {
        Run.of(RICH).bounds("which _", 0, 1, BAD);
        Run.of("").bounds("which _", 0, 1, BAD).due("which 0", NONE).due("which 1", NONE);
        Run.of("image, pourer 0 0, back").due("which 0", NONE).due("which 1", NONE);
        Run.of("row 0110, pourer 0 0").refused("which 0", 0).refused("which 1", 2);
    }

    /** "least UNEVEN; of like ones the first" */
    private static void whichOfLikeOnes() {
        Run.of("pourer 0 0, pourer 0 1, pourer 0 2").due("which 0", 0).due("which 1", 4);
        Run.of("pourer 0 0, pourer 1 0, pourer 1 1, pourer 2 0").due("which 0", 1).due("which 1", 0);
        Run.of("pourer 0 0, pourer 0 0, pourer 0 0, pourer 0 0, pourer 0 0, pourer 1 0").due("which 0", 5).due("which 1", 0);
        Run.of("set 0 0 1").also(SIX).due("which 0", 0).due("which 1", 0);
        Run.of("set 1 0 0").also(SIX).due("which 0", 0).due("which 1", 0);
    }

    /** "what a captain (0 .. CUPS less 1) has; captain NONE: how far the most is above the least. BAD." */
    private static void captainNumbers() {
        Run.of(RICH).bounds("captains _", -1, 2, BAD);
        Run.of("set 0 0 1").bounds("captains _", -1, 0, BAD);
        Run.of("set 0 0 4, set 1 0 0").bounds("captains _", -1, 3, BAD).due("captains -1", 0).due("captains 3", 0);
    }

    /** "the THING of the highest PRICE that is left (of like ones the first), if any is" */
    private static void captainsEdges() {
        String prices = "set 3 0 1, set 3 1 99, set 3 2 2, set 3 3 50, set 3 4 50, set 3 5 3, set 3 6 0, set 3 7 4";
        Run.of(prices, "row 0").due("captains 0", 99).due("captains 1", 0).due("captains -1", 99);
        Run.of(prices, "row 10").due("captains 0", 50).due("captains 1", 99).due("captains -1", 49);
        Run.of(prices, "row 1001").due("captains 0", 100).due("captains 1", 103).due("captains -1", 3);
        // The seventh takes 1, the eighth 0, the ninth finds none.
        Run.of(prices, "row 0000001").due("captains 1", 1).also("row 00000001").due("captains 1", 0).due("captains 0", 209);
        Run.of(prices, "row 000000001").due("captains 1", 0).due("captains 0", 209).also("row 000000101").due("captains 1", 1);
        String all = "set 3 0 99, set 3 1 99, set 3 2 99, set 3 3 99, set 3 4 99, set 3 5 99, set 3 6 99, set 3 7 99";
        Run.of(all, "set 1 0 24").due("captains 0", 792).due("captains -1", 792).also("lay 7 1, lay 8 1, lay 23 1").due("captains 1", 99);
        Run.of(all, "set 0 0 1, set 1 0 24").due("captains 0", 792).due("captains -1", 0);
        Run.of("set 1 0 24").due("captains 0", 0).due("captains -1", 0);
        Run.of("set 3 7 1, row 1").due("captains 1", 1).due("captains 1", 1).due("told 7 2", 1);
    }

    /** "BAD: k; -11: no such POURER; -13." */
    private static void takenNumbers() {
        Run.of(RICH).bounds("taken 0 _", 0, 5, BAD).bounds("taken _ 0", 0, 1, NOTHING);
        Run.of(SIX).bounds("taken 5 _", 0, 5, BAD).bounds("taken _ 0", 0, 5, NOTHING);
        Run.of("").refused("taken 0 0", NOTHING).refused("taken 0 6", BAD).refused("taken -1 -1", BAD).refused("taken most least", BAD);
        Run.of("image, pourer 0 3, back").refused("taken 0 0", NOTHING);
    }

    /** "one of KIND k (0 .. 5), or one under that one (also by others between): the NUMBER" */
    private static void takenKinds() {
        String[] under = {"0", "01", "02", "013", "024", "015"};
        for (int kind = 0; kind < 6; kind++) {
            for (int number : new int[] {0, 9}) {
                for (int k = 0; k < 6; k++) {
                    boolean is = under[kind].indexOf('0' + k) >= 0;
                    Run.of("pourer " + kind + " " + number).refused("taken 0 " + k, is ? number : OTHER);
                }
            }
        }
        Run.of("pourer 3 4, set 2 0 7").due("taken 0 0", 7).due("taken 0 1", 7).due("taken 0 3", 7).due("taken 0 5", OTHER);
    }
}
