/** The edges that the document names in promises 21 to 28: tastes, whom, forgotten, drawn, chance, image, back, count. */
public final class TastesEdgesTest {
    private static final int BAD = Run.BAD, STATE = Run.STATE, NOTHING = Run.NOTHING, NONE = -1;
    private static final long NO = Run.NO;
    private static final String RICH = "set 0 0 3, row 012021, pourer 3 4, pourer 5 2, set 3 0 9, "
        + "rule strong drib*2+cup+full;drips 1+was;liked 9+cup;, tell 0 0 1 2 0, tell 1 2 7 9, image, lay 0 2, bytes strong 7;drips 0;liked 3;";
    private static final String WATER = "rule strong 0;drips 0;liked 0;";

    public static void main(String[] args) {
        sheetNumbers();
        sheetSizes();
        tastesOfMany();
        tastesOfTooMany();
        tastesOfNone();
        tastesJustSo();
        tastesOfFullCups();
        whomEdges();
        forgottenEdges();
        forgottenLeavesNumbers();
        drawnNumbers();
        drawnSeeds();
        chanceNumbers();
        chanceSeedsWrap();
        chanceInLowestTerms();
        images();
        whatAnImageKeeps();
        pourersSinceGo();
        counts();
        Due.finish();
    }

    /** "BAD: SHEET, what; -11": the first of them that is so. */
    private static void sheetNumbers() {
        Run.of(RICH).bounds("tastes _ 0", 0, 0, BAD).bounds("tastes 0 _", 0, 1, BAD).bounds("whom _", 0, 0, BAD).bounds("forgotten _", 0, 0, BAD);
        String all = "tell 0 0 1 2, tell 1 1 1 2, tell 2 2 1 2, tell 3 2 1 2";
        Run.of(all).bounds("tastes _ 1", 0, 3, BAD).bounds("whom _", 0, 3, BAD).bounds("forgotten _", 0, 3, BAD);
        for (int sheet = 0; sheet < 4; sheet++) {
            Run.of("").refused("tastes " + sheet + " 0", NOTHING).refused("tastes " + sheet + " 1", NOTHING).refused("whom " + sheet, NOTHING)
                .refused("forgotten " + sheet, NOTHING).refused("tastes " + sheet + " 2", BAD).refused("tastes " + sheet + " -1", BAD);
        }
        Run.of(all).refused("tastes 4 0", BAD).refused("tastes -1 0", BAD).refused("tastes most 0", BAD).refused("tastes least 0", BAD);
        Run.of(RICH).refused("tastes 2 0", NOTHING).refused("whom 2", NOTHING).refused("forgotten 2", NOTHING);
    }

    /** "BAD: its size isn't CUPS": ahead of STATE, behind -11. */
    private static void sheetSizes() {
        for (int cups = 1; cups <= 4; cups++) {
            for (int size : new int[] {0, cups - 1, cups + 1, 40}) {
                Run tea = Run.of("set 0 0 " + cups + ", set 1 0 24, sheet 0 2 " + size);
                tea.refused("tastes 0 0", BAD).refused("tastes 0 1", BAD).refused("whom 0", BAD).refused("forgotten 0", BAD);
            }
            Run.of("set 0 0 " + cups + ", set 1 0 0, sheet 0 2 " + cups).due("tastes 0 0", 1).due("whom 0", 0).due("forgotten 0", 0);
            Run.of("set 0 0 " + cups + ", set 1 0 24").refused("tastes 0 0", NOTHING);
        }
    }

    /** "of WAYS (of 9 dribs at most": 65536 ways, and 9 dribs. */
    private static void tastesOfMany() {
        Run.of("set 0 0 4, set 1 0 8, tell 0 0 0 0 0 0, " + WATER).due("tastes 0 0", 65536).due("tastes 0 1", 0);
        Run.of("set 0 0 3, set 1 0 9, tell 0 0 0 0 0, " + WATER).due("tastes 0 0", 19683).due("tastes 0 1", 0);
        Run.of("set 0 0 3, set 1 0 9, tell 0 0 0 0 45").due("tastes 0 0", 1).due("tastes 0 1", 222222222);
        Run.of("set 0 0 2, set 1 0 9, tell 0 0 44 1").due("tastes 0 0", 1).due("tastes 0 1", 100000000);
        Run.of("set 0 0 2, set 1 0 9, tell 0 0 36 9").due("tastes 0 0", 8).due("tastes 0 1", 1);
        Run.of("set 0 0 1, set 1 0 9, tell 0 0 45").due("tastes 0 0", 1).due("tastes 0 1", 0);
        Run.of("set 0 0 4, set 1 0 8, tell 0 0 0 0 0 36").due("tastes 0 0", 1).due("tastes 0 1", 33333333);
    }

    /** "else STATE" */
    private static void tastesOfTooMany() {
        int[] least = {10, 10, 10, 9};
        for (int cups = 1; cups <= 4; cups++) {
            for (int dribs : new int[] {least[cups - 1], 16, 24}) {
                Run.of("set 0 0 " + cups + ", set 1 0 " + dribs + ", sheet 0 2 " + cups).refused("tastes 0 0", STATE).refused("tastes 0 1", STATE)
                    .refused("tastes 0 2", BAD).refused("tastes 1 0", NOTHING).refused("tastes 4 0", BAD);
            }
        }
    }

    /** "how many (what 0), the first (1; NONE)"; no drib at all goes in one way. */
    private static void tastesOfNone() {
        Run.of("row 11, tell 0 0 3 1").due("tastes 0 0", 0).due("tastes 0 1", NONE);
        Run.of("row 11, tell 0 2 -1 4").due("tastes 0 0", 0).due("tastes 0 1", NONE);
        Run.of("row 11, tell 0 2 most least").due("tastes 0 0", 0).due("tastes 0 1", NONE);
        Run.of("set 1 0 0, tell 0 0 0 0").due("tastes 0 0", 1).due("tastes 0 1", 0);
        Run.of("set 1 0 0, tell 0 0 0 1").due("tastes 0 0", 0).due("tastes 0 1", NONE);
        Run.of("set 1 0 0, tell 0 0 -1 0").due("tastes 0 0", 0).due("tastes 0 1", NONE);
    }

    /** All of it just as told: one more or less in a CUP is another taste. */
    private static void tastesJustSo() {
        Run.of("row 0000, tell 0 0 6 4").due("tastes 0 0", 2).due("tastes 0 1", 1).due("whom 0", 0).row("0000");
        Run.of("row 0000, tell 0 0 6 5").due("tastes 0 0", 0);
        Run.of("row 0000, tell 0 0 5 4").due("tastes 0 0", 0);
        Run.of("row 0000, tell 0 0 7 4").due("tastes 0 0", 0);
        Run.of("row 1, tell 0 0 1 0").due("tastes 0 0", 1).due("tastes 0 1", 0).also("tell 0 0 0 1").due("tastes 0 0", 1).due("tastes 0 1", 1);
        // By drips: 01 is 5 and 5 less 2, 10 the other way round; 00 and 11 are 10.
        Run.of("row 00, rule strong 5;drips 2;liked 0;, tell 0 0 5 3").due("tastes 0 0", 1).due("tastes 0 1", 1)
            .also("tell 0 0 3 5").due("tastes 0 0", 1).due("tastes 0 1", 10).also("tell 0 0 5 5").due("tastes 0 0", 0);
    }

    /** All dribs into one CUP, by a rule that looks at all that it can: the fullest that a CUP can be by then. */
    private static void tastesOfFullCups() {
        String rule = ", rule strong 1+full*10+was*3+cup*7;drips 2;liked 0;";
        Run.of("set 1 0 9, tell 0 2 369 0" + rule).due("cup 0 1", 369).due("tastes 0 0", 1).due("tastes 0 1", 0);
        Run.of("set 1 0 9, tell 0 2 0 459" + rule).due("tastes 0 0", 1).due("tastes 0 1", 111111111);
        Run.of("set 0 0 4, set 1 0 8, tell 0 2 0 0 0 528" + rule).due("tastes 0 0", 1).due("tastes 0 1", 33333333);
        Run.of("set 0 0 3, set 1 0 9, tell 0 2 0 369 0" + rule).due("tastes 0 0", 0).also("cell 0 1 459").due("tastes 0 0", 1).due("tastes 0 1", 111111111);
        Run.of("set 0 0 1, set 1 0 9, tell 0 2 369" + rule).due("tastes 0 0", 1).due("tastes 0 1", 0);
    }

    /** "POURERS (bits) by whose rows it would be so": none, all of six, the last alone. */
    private static void whomEdges() {
        Run.of("tell 0 0 16 20").due("whom 0", 0);
        String six = "pourer 0 0, pourer 0 2, pourer 0 4, pourer 0 6, pourer 0 8, pourer 0 0";
        Run.of("tell 0 0 16 20", six).due("whom 0", 63).also("set 2 0 1").due("whom 0", 62).also("set 2 5 1").due("whom 0", 30);
        Run.of("tell 0 0 20 16", six).due("whom 0", 0).also("set 2 5 9").due("whom 0", 32);
        Run.of("set 0 0 1, set 1 0 24, tell 0 2 300", six).due("whom 0", 63).also("cell 0 0 299").due("whom 0", 0);
        Run.of("set 1 0 0, tell 0 2 0 0", six).due("whom 0", 63);
        Run.of("row 0000, tell 0 0 5 5", six, "pourer 1 0, image").refused("whom 0", 0);
    }

    /** "the first CUP by which .. STRENGTH of each other CUP would be as told; NONE" */
    private static void forgottenEdges() {
        Run.of("set 0 0 1, row 00, tell 0 2 -99").due("forgotten 0", 0).also("set 1 0 0").due("forgotten 0", 0);
        Run.of("row 0011, tell 0 0 3 7").due("forgotten 0", 0).also("tell 0 0 3 8").due("forgotten 0", 1).also("tell 0 0 4 7").due("forgotten 0", 0);
        Run.of("row 0011, tell 0 0 4 8").due("forgotten 0", NONE).also("tell 0 0 2 6").due("forgotten 0", NONE);
        Run.of("set 0 0 4, row 0123, tell 0 0 1 2 3 0").due("forgotten 0", 3).also("tell 0 0 1 2 0 0").due("forgotten 0", NONE);
        Run.of("set 0 0 4, row 012, tell 0 0 1 2 3 0").due("forgotten 0", 0).also("cell 0 0 9").due("forgotten 0", 0).also("cell 0 1 9").due("forgotten 0", NONE);
        Run.of("set 0 0 3, set 1 0 0, tell 0 0 0 0 5").due("forgotten 0", 2).also("tell 0 0 0 0 0").due("forgotten 0", 0);
        Run.of("row 0011, tell 0 0 3 8").refused("forgotten 0", 1);
        // All is as told when none is forgotten; but 20 were in 0 without 1, and 10 in 1 without 0.
        Run.of("row 010, rule strong 10;drips 3;liked 0;, tell 0 0 17 7").due("cup 0 1", 17).due("cup 1 1", 7).due("forgotten 0", NONE);
    }

    /** "(the others keep their numbers)", and there are as many; who is ahead is one that was poured. */
    private static void forgottenLeavesNumbers() {
        Run.of("row 0011, tell 0 0 0 7").due("forgotten 0", 0);
        Run.of("row 0011, rule strong drib*10+full;drips 0;liked 0;, tell 0 0 -1 51").due("forgotten 0", 0);
        Run.of("row 0011, rule strong dribs;drips 0;liked 0;, tell 0 0 -1 8").due("forgotten 0", 0);
        Run.of("set 0 0 3, row 0121, rule strong 10;drips 3;liked 0;, tell 0 0 7 14 99").due("forgotten 0", NONE)
            .also("tell 0 0 10 17 99").due("forgotten 0", 2).also("tell 0 0 10 99 7").due("forgotten 0", 1).also("tell 0 0 99 17 7").due("forgotten 0", 0);
    }

    /** "off (0 .. 20)" */
    private static void drawnNumbers() {
        Run.of(RICH).bounds("drawn 5 _", 0, 20, BAD).bounds("drawn most _", 0, 20, BAD);
        Run.of("row 0110").refused("drawn 5 0", 0).refused("drawn 5 21", BAD).refused("drawn 5 -1", BAD);
        Run.of("set 1 0 0").due("drawn 5 20", 0).due("drawn least 20", 0);
        Run.of("set 0 0 1, set 1 0 24").due("drawn 5 20", 0);
        Run.of("set 1 0 1, " + WATER).due("drawn 0 20", (12345 >>> 10) % 21).due("drawn 0 0", 0).due("drawn 0 1", (12345 >>> 10) % 2);
    }

    /** What the dribs of a row that all goes into CUP 0 are drawn stronger, told with longs. */
    private static long drawn(long seed, int off, int dribs) {
        long z = seed & 0xffffffffL;
        long sum = 0;
        for (int drib = 0; drib < dribs; drib++) {
            z = (z * 1103515245L + 12345L) & 0xffffffffL;
            sum += (z >> 10) % (off + 1);
        }
        return sum;
    }

    /** "z = z * 1103515245 + 12345 (an int; SEED at first)", "(z >>> 10) % (off and 1)": whatever SEED is. */
    private static void drawnSeeds() {
        int[] seeds = {0, 1, -1, 2, -2, 12345, Integer.MAX_VALUE, Integer.MAX_VALUE - 1, Integer.MIN_VALUE, Integer.MIN_VALUE + 1};
        for (int seed : seeds) {
            for (int off : new int[] {0, 1, 9, 19, 20}) {
                for (int dribs : new int[] {1, 2, 24}) {
                    Run.of("set 1 0 " + dribs + ", " + WATER).due("drawn " + seed + " " + off, drawn(seed, off, dribs));
                }
            }
        }
    }

    /** "NO: n, off, part.", "(1 .. 20)" */
    private static void chanceNumbers() {
        Run.of(RICH).bounds("chance 5 _ 3 0", 1, 20, NO).bounds("chance 5 3 _ 0", 0, 20, NO).bounds("chance 5 3 3 _", 0, 1, NO);
        Run.of("set 1 0 0").bounds("chance 5 _ 3 1", 1, 20, NO).due("chance 5 20 20 0", 0).due("chance 5 20 20 1", 1);
        Run.of("row 0110").refused("chance 5 0 0 0", NO).refused("chance 5 1 0 0", 0).refused("chance 5 1 0 1", 1);
    }

    /** "SEED and each 1 more (an int)": behind the greatest comes the least. */
    private static void chanceSeedsWrap() {
        Run tea = Run.of("set 1 0 3, " + WATER);
        long sum = drawn(Integer.MAX_VALUE, 20, 3) + drawn(Integer.MIN_VALUE, 20, 3);
        tea.due("chance most 2 20 0", sum % 2 == 0 ? sum / 2 : sum).due("chance most 2 20 1", sum % 2 == 0 ? 1 : 2);
        long more = sum + drawn(Integer.MIN_VALUE + 1, 20, 3);
        tea.due("chance most 3 20 0", more % 3 == 0 ? more / 3 : more).due("chance most 3 20 1", more % 3 == 0 ? 1 : 3);
        tea.due("chance most 1 20 0", drawn(Integer.MAX_VALUE, 20, 3)).due("chance least 1 20 0", drawn(Integer.MIN_VALUE, 20, 3));
        long about = drawn(-1, 20, 3) + drawn(0, 20, 3);
        tea.due("chance -1 2 20 0", about % 2 == 0 ? about / 2 : about);
    }

    /** "part 0 above, 1 below the line, in lowest terms" */
    private static void chanceInLowestTerms() {
        Run tea = Run.of("set 1 0 2, " + WATER);
        for (int n = 1; n <= 20; n++) {
            long sum = 0;
            for (int k = 0; k < n; k++) {
                sum += drawn(77 + k, 13, 2);
            }
            long divisor = n;
            while (sum % divisor != 0 || n % divisor != 0) {
                divisor--;
            }
            tea.due("chance 77 " + n + " 13 0", sum / divisor).due("chance 77 " + n + " 13 1", n / divisor);
        }
        Run.of("set 1 0 0").due("chance 1 20 20 0", 0).due("chance 1 20 20 1", 1);
        Run.of("set 1 0 1, rule strong 999;drips 0;liked 0;").due("chance 1 20 0 0", 999).due("chance 1 20 0 1", 1);
    }

    /** "AN IMAGE is kept: how many dribs." "STATE: there is none." */
    private static void images() {
        Run.of("").refused("back", STATE);
        Run.of("set 0 0 4, row 3210, pourer 1 1").refused("back", STATE);
        Run.of("set 1 0 0").due("image", 0).due("set 1 0 24", 0).due("back", 0).row("");
        Run.of("set 0 0 4, set 1 0 24, lay 23 3").due("image", 24).due("set 0 0 1", 4).due("set 1 0 1", 24).due("back", 24).due("at 23", 3).due("count 0", 4);
        Run.of("row 0110").due("image", 4).due("back", 4).due("back", 4).row("0110");
        Run.of("row 0110, image, row 01").due("image", 2).also("row 111").due("back", 2).row("01").due("back", 2);
    }

    /** "AN IMAGE keeps CUPS, DRIBS, THE ROW, PRICES, NUMBERS of POURERS, THE RULE": and nothing besides. */
    private static void whatAnImageKeeps() {
        Run tea = Run.of("set 0 0 3, row 0122, set 3 0 1, set 3 7 99, pourer 0 9, rule strong 5;drips 0;liked 0;, tell 0 0 1, bytes ab, image");
        tea.also("set 0 0 4, row 333333, set 3 0 2, set 3 7 0, set 2 0 0, text, rule strong 6;drips 0;liked 0;, tell 0 1 2 2, sheet 1 0 3, bytes c");
        tea.due("back", 4).due("count 0", 3).row("0122").due("told 0 2", 1).due("told 7 2", 99).due("told 0 0", 9).due("count 5", 1);
        tea.due("count 3", 3).due("count 4", 1).due("force 2", 1).due("cup 0 1", 6).due("cell 0 1 0", 1).due("cell 0 2 0", -12).due("cell 1 2 0", 1);
        // What has been changed behind back is not in THE IMAGE.
        tea.also("lay 0 2, set 3 0 5, set 2 0 4").due("back", 4).row("0122").due("told 0 2", 1).due("told 0 0", 9).due("count 5", 1);
    }

    /** "(POURERS that came since go)" */
    private static void pourersSinceGo() {
        Run.of("image, pourer 0 0, pourer 1 1").due("count 2", 2).due("back", 8).due("count 2", 0).due("told 0 0", BAD).due("pourer 5 5", 0);
        Run.of("pourer 2 3, image, pourer 1 1, back, pourer 4 8").due("told 1 0", 8).due("told 1 1", 4).due("back", 8).due("count 2", 1)
            .due("told 0 0", 3).due("told 0 1", 2).due("told 1 1", BAD).due("follow 1", BAD).due("poured 1 0", BAD).due("set 2 1 0", BAD);
        Run.of("pourer 0 0, pourer 1 1, pourer 2 2, pourer 3 3, pourer 4 4, pourer 5 5, image, set 2 5 0, set 2 0 9").due("back", 8)
            .due("count 2", 6).due("told 5 0", 5).due("told 0 0", 0).due("pourer 0 0", Run.FULL);
        Run.of("tell 0 0 16 20, image, pourer 0 0").due("whom 0", 1).due("back", 8).due("whom 0", 0).due("which 0", NONE);
    }

    /** "How many: 0 CUPS, .. 5 THE RULE. BAD." */
    private static void counts() {
        Run.of(RICH).bounds("count _", 0, 5, BAD);
        Run.of("set 0 0 4, set 1 0 24").due("count 0", 4).due("count 1", 24).also("set 0 0 1, set 1 0 0").due("count 0", 1).due("count 1", 0);
        Run.of("").due("count 2", 0).due("count 3", 1).due("count 4", 0).due("count 5", 0);
    }
}
