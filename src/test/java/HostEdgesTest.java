/** The edges that the document names in promises 29 to 32: sheet, cell, copy, rows. */
public final class HostEdgesTest {
    private static final int BAD = Run.BAD, NOTHING = Run.NOTHING, OUTSIDE = Run.OUTSIDE, OTHER = Run.OTHER, BELOW = Run.BELOW;
    /** Of each sort one, of unlike sizes; sheet 3 is missing. */
    private static final String SHEETS = "set 0 0 4, row 000000, tell 0 0 1 2 3 1, tell 1 1 3 2 1, tell 2 2 2 3 1 1 2";

    public static void main(String[] args) {
        sheetNumbers();
        sheetSizes();
        sheetAnew();
        sheetMissing();
        cellNumbers();
        cellBits();
        copyRefusals();
        copyEnds();
        copyOfNone();
        copyWraps();
        copyOverItself();
        rowsNumbers();
        rowsSorts();
        rowsOutside();
        rowsLeftOut();
        Due.finish();
    }

    /** "SHEETS 0 .. 3", "of sort 0 bytes, 1 shorts, 2 ints", "or missing (sort -1" */
    private static void sheetNumbers() {
        Run.of(SHEETS).bounds("sheet _ 1 2", 0, 3, BAD).bounds("sheet _ -1 2", 0, 3, BAD).bounds("sheet 0 _ 2", -1, 2, BAD);
        Run.of(SHEETS).bounds("sheet 3 _ 2", -1, 2, BAD);
    }

    /** "n above 40" is BAD, a size below 0 is -14; 0 and 40 are taken. */
    private static void sheetSizes() {
        for (int sort = 0; sort < 3; sort++) {
            Run tea = Run.of(SHEETS);
            tea.refused("sheet 1 " + sort + " 41", BAD).refused("sheet 1 " + sort + " most", BAD);
            tea.refused("sheet 1 " + sort + " -1", BELOW).refused("sheet 1 " + sort + " least", BELOW);
            tea.refused("sheet 3 " + sort + " 41", BAD).refused("sheet 3 " + sort + " -1", BELOW);
            tea.due("sheet 1 " + sort + " 40", 1).due("cell 1 39 1", 1).due("cell 1 40 1", OUTSIDE);
            tea.due("sheet 1 " + sort + " 0", 1).due("cell 1 0 1", OUTSIDE).due("sheet 1 " + sort + " 1", 1);
            tea.due("cell 1 0 1", 1).due("cell 1 1 1", OUTSIDE);
        }
        Run.of(SHEETS).refused("sheet 4 0 -1", BAD).refused("sheet -1 0 41", BAD).refused("sheet 0 3 -1", BAD);
        Run.of(SHEETS).refused("sheet 0 -2 -1", BAD);
    }

    /** "a row of n of a sort, all 0" */
    private static void sheetAnew() {
        Run.of(SHEETS).due("sheet 0 0 4", 1).also("lay 0 3, lay 1 3, lay 2 3, lay 3 3").due("rows 0 0 0 4", 4).row("000000");
        Run.of(SHEETS).due("sheet 0 2 4", 1).due("rows 0 0 0 4", OTHER).due("rows 0 2 0 4", 4);
        Run.of(SHEETS).due("sheet 0 -1 0", 1).due("sheet 0 0 4", 1).due("rows 0 0 0 4", 4).row("000000");
    }

    /** "missing (sort -1: n does not matter)" */
    private static void sheetMissing() {
        for (String n : new String[] {"0", "2", "-1", "41", "most", "least"}) {
            Run.of(SHEETS).due("sheet 0 -1 " + n, 1).due("cell 0 0 0", NOTHING).due("sheet 0 -1 " + n, 1).due("cell 0 0 0", NOTHING);
            Run.of("").refused("sheet 4 -1 " + n, BAD).due("sheet 3 -1 " + n, 1);
        }
    }

    /** "BAD: no such SHEET; -11; -12." */
    private static void cellNumbers() {
        Run.of(SHEETS).bounds("cell _ 0 3", 0, 3, BAD);
        Run.of(SHEETS).bounds("cell 0 _ 2", 0, 3, OUTSIDE).bounds("cell 1 _ 2", 0, 2, OUTSIDE).bounds("cell 2 _ 2", 0, 4, OUTSIDE);
        Run.of("sheet 1 2 40").bounds("cell 1 _ 2", 0, 39, OUTSIDE);
        Run.of("sheet 1 2 0").refused("cell 1 0 2", OUTSIDE).refused("cell 1 -1 2", OUTSIDE);
        Run.of(SHEETS).refused("cell 3 0 2", NOTHING).refused("cell 3 -1 2", NOTHING).refused("cell 3 40 2", NOTHING);
        Run.of(SHEETS).refused("cell 4 -1 2", BAD).refused("cell -1 40 2", BAD);
        Run.of(SHEETS).due("cell 0 3 2", 1).due("rows 0 0 0 4", 4).row("123200").due("cell 0 0 0", 1).due("rows 0 0 0 4", 4).row("023200");
    }

    /** "of bytes, shorts its lowest 8, 16 bits": the numbers just within and just beyond, on both sides. */
    private static void cellBits() {
        keeps(0, 127, 127, true);
        keeps(0, 128, 128, false);
        keeps(0, 255, 255, false);
        keeps(0, 256, 256, false);
        keeps(0, 256, 0, true);
        keeps(0, 257, 1, true);
        keeps(0, 383, 127, true);
        keeps(0, 65536 + 5, 5, true);
        keeps(0, -1, 255, false);
        keeps(0, -1, 1, false);
        keeps(0, -128, 128, false);
        keeps(0, -129, 127, true);
        keeps(0, -255, 1, true);
        keeps(0, -256, 0, true);
        keeps(0, Integer.MIN_VALUE, 0, true);
        keeps(0, Integer.MAX_VALUE, 255, false);
        keeps(1, 128, 128, true);
        keeps(1, 256, 256, true);
        keeps(1, 23976, 23976, true);
        keeps(1, 65536, 0, true);
        keeps(1, 65536 + 300, 300, true);
        keeps(1, 65536 + 23976, 23976, true);
        keeps(1, 32768 + 23976, 23976, false);
        keeps(1, -65536, 0, true);
        keeps(1, -65535, 1, true);
        keeps(1, -300, 300, false);
        keeps(1, Integer.MIN_VALUE, 0, true);
        keeps(2, 23976, 23976, true);
        keeps(2, 65536, 0, false);
        keeps(2, 65536 + 300, 300, false);
        keeps(2, 256, 0, false);
        keeps(2, Integer.MIN_VALUE, 0, false);
    }

    /** Whether a sheet of one number, become v, tells that STRENGTH of the one CUP. */
    private static void keeps(int sort, int v, int strength, boolean is) {
        String one = strength > 999 ? "rule strong 999;drips 0;liked 0;, set 1 0 24" : "rule strong " + strength + ";drips 0;liked 0;, set 1 0 1";
        Run.of("set 0 0 1", one, "pourer 0 0, tell 0 " + sort + " " + v).due("cup 0 1", strength).due("whom 0", is ? 1 : 0);
    }

    /** "BAD: no such SHEET; -11; -13: they are of unlike sorts; -12 (also with n below 0)." */
    private static void copyRefusals() {
        String like = SHEETS + ", tell 3 0 0 0 0";
        for (String wrong : new String[] {"-1", "4", "most", "least"}) {
            Run.of(SHEETS).refused("copy " + wrong + " 0 0 0 1", BAD).refused("copy 0 0 " + wrong + " 0 1", BAD);
            Run.of(SHEETS).refused("copy " + wrong + " 9 3 9 -1", BAD).refused("copy 3 9 " + wrong + " 9 -1", BAD);
            Run.of(SHEETS).refused("copy 0 " + wrong.replace("4", "5") + " 0 0 1", OUTSIDE);
            Run.of(like).refused("copy 0 0 3 " + wrong + " 1", OUTSIDE);
        }
        Run.of(SHEETS).refused("copy 3 0 0 0 1", NOTHING).refused("copy 0 0 3 0 1", NOTHING).refused("copy 3 0 3 0 0", NOTHING);
        Run.of(SHEETS).refused("copy 3 9 1 9 -1", NOTHING).refused("copy 1 9 3 9 -1", NOTHING);
        Run.of(SHEETS).refused("copy 0 0 1 0 1", OTHER).refused("copy 1 0 2 0 0", OTHER).refused("copy 2 9 0 9 -1", OTHER);
        Run.of(like).refused("copy 0 0 3 0 -1", OUTSIDE).refused("copy 0 0 3 0 least", OUTSIDE).refused("copy 0 0 0 0 -1", OUTSIDE);
    }

    /** The last places that are inside, and the first that are not, of the one and of the other. */
    private static void copyEnds() {
        String like = SHEETS + ", tell 3 0 0 0 0";
        Run.of(like).due("copy 0 0 3 0 3", 3).due("rows 3 0 0 3", 3).row("123000");
        Run.of(like).due("copy 0 1 3 0 3", 3).due("rows 3 0 0 3", 3).row("231000");
        Run.of(like).refused("copy 0 2 3 0 3", OUTSIDE).refused("copy 0 0 3 0 4", OUTSIDE).refused("copy 0 0 3 1 3", OUTSIDE);
        Run.of(like).due("copy 0 3 3 2 1", 1).due("rows 3 0 0 3", 3).row("001000");
        Run.of(like).refused("copy 0 4 3 2 1", OUTSIDE).refused("copy 0 3 3 3 1", OUTSIDE).refused("copy 0 -1 3 0 1", OUTSIDE);
        Run.of(like).refused("copy 0 0 3 -1 1", OUTSIDE).refused("copy 0 0 3 -1 3", OUTSIDE).refused("copy 0 -1 3 0 3", OUTSIDE);
        Run.of("sheet 0 1 40, sheet 1 1 40").due("copy 0 0 1 0 40", 40).refused("copy 0 0 1 0 41", OUTSIDE)
            .refused("copy 0 1 1 0 40", OUTSIDE).refused("copy 0 0 1 1 40", OUTSIDE);
    }

    /** None at all are copied, at each end as well; not from behind the end. */
    private static void copyOfNone() {
        String like = SHEETS + ", tell 3 0 0 0 0";
        Run.of(like).due("copy 0 0 3 0 0", 0).due("copy 0 4 3 3 0", 0).due("rows 3 0 0 3", 3).row("000000");
        Run.of(like).refused("copy 0 5 3 3 0", OUTSIDE).refused("copy 0 4 3 4 0", OUTSIDE);
        Run.of(like).refused("copy 0 -1 3 0 0", OUTSIDE).refused("copy 0 0 3 -1 0", OUTSIDE);
        Run.of("sheet 0 2 0, sheet 1 2 0").due("copy 0 0 1 0 0", 0).refused("copy 0 0 1 0 1", OUTSIDE).refused("copy 0 1 1 0 0", OUTSIDE);
    }

    /** A place and n together wrap around: outside all the same. */
    private static void copyWraps() {
        String like = SHEETS + ", tell 3 0 0 0 0";
        Run.of(like).refused("copy 0 1 3 0 most", OUTSIDE).refused("copy 0 0 3 1 most", OUTSIDE).refused("copy 0 2 3 2 most", OUTSIDE);
        Run.of(like).refused("copy 0 most 3 0 1", OUTSIDE).refused("copy 0 0 3 most 1", OUTSIDE).refused("copy 0 most 3 0 most", OUTSIDE);
        Run.of(like).refused("copy 0 least 3 0 least", OUTSIDE).refused("copy 0 0 3 least least", OUTSIDE);
    }

    /** "(as they were)" */
    private static void copyOverItself() {
        Run.of(SHEETS).due("copy 2 0 2 1 4", 4).due("rows 2 2 0 5", 5).row("223110");
        Run.of(SHEETS).due("copy 2 1 2 0 4", 4).due("rows 2 2 0 5", 5).row("311220");
        Run.of(SHEETS).due("copy 2 0 2 0 5", 5).due("rows 2 2 0 5", 5).row("231120");
        Run.of(SHEETS).due("copy 0 0 0 1 3", 3).due("rows 0 0 0 4", 4).row("112300");
        Run.of(SHEETS).due("copy 1 0 1 1 2", 2).due("rows 1 1 0 3", 3).row("332000");
    }

    /** "BAD: no such SHEET, sort, n"; n is 0 .. 24. */
    private static void rowsNumbers() {
        Run.of(SHEETS).bounds("rows _ 0 0 1", 0, 3, BAD).bounds("rows 0 _ 0 1", 0, 2, BAD);
        Run.of("sheet 0 0 40").bounds("rows 0 0 0 _", 0, 24, BAD);
        Run.of(SHEETS).refused("rows 3 0 0 25", BAD).refused("rows 3 3 0 0", BAD).refused("rows 0 1 9 -1", BAD).refused("rows 4 3 9 25", BAD);
        Run.of("sheet 0 0 40, set 1 0 24").due("rows 0 0 0 24", 24).due("rows 0 0 16 24", 24).due("rows 0 0 0 0", 0).due("rows 0 0 39 1", 1);
    }

    /** "-13; -11": a missing one is of no sort at all, and so is nothing where something is asked. */
    private static void rowsSorts() {
        Run.of(SHEETS).refused("rows 0 1 0 1", OTHER).refused("rows 0 2 0 1", OTHER).refused("rows 1 0 0 1", OTHER);
        Run.of(SHEETS).refused("rows 1 2 0 1", OTHER).refused("rows 2 0 0 1", OTHER).refused("rows 2 1 0 1", OTHER);
        Run.of(SHEETS).refused("rows 0 1 9 0", OTHER).refused("rows 0 1 -1 5", OTHER);
        Run.of(SHEETS).refused("rows 3 0 0 1", NOTHING).refused("rows 3 1 0 0", NOTHING).refused("rows 3 2 -1 5", NOTHING);
    }

    /** "-12: what stood ahead became so." */
    private static void rowsOutside() {
        Run.of(SHEETS).due("rows 0 0 0 4", 4).row("123100").due("rows 0 0 3 1", 1).row("123100");
        Run.of(SHEETS).due("rows 0 0 0 5", OUTSIDE).row("123100");
        Run.of(SHEETS).due("rows 0 0 2 3", OUTSIDE).row("310000");
        Run.of(SHEETS).refused("rows 0 0 4 1", OUTSIDE).refused("rows 0 0 -1 1", OUTSIDE).refused("rows 0 0 -1 3", OUTSIDE);
        Run.of(SHEETS).refused("rows 0 0 most 1", OUTSIDE).refused("rows 0 0 most 24", OUTSIDE);
        Run.of(SHEETS).refused("rows 0 0 least 1", OUTSIDE).refused("rows 0 0 least 24", OUTSIDE);
        Run.of(SHEETS).due("rows 0 0 4 0", 0).due("rows 0 0 5 0", 0).due("rows 0 0 -1 0", 0).due("rows 0 0 most 0", 0).row("000000");
        Run.of("sheet 0 2 0").refused("rows 0 2 0 1", OUTSIDE).due("rows 0 2 0 0", 0);
        Run.of("sheet 0 0 40").refused("rows 0 0 17 24", OUTSIDE).refused("rows 0 0 40 1", OUTSIDE);
        Run.of(SHEETS, "row 0000").due("rows 2 2 0 6", OUTSIDE).row("2311");
    }

    /** "(numbers that are no CUPS, dribs that aren't there, are left out)" */
    private static void rowsLeftOut() {
        Run.of("set 0 0 3, row 111111, tell 0 2 2 3 -1 0 most least").due("rows 0 2 0 6", 2).row("211011");
        Run.of("set 0 0 4, row 111111, tell 0 2 3 4 0").due("rows 0 2 0 3", 2).row("310111");
        Run.of("set 0 0 1, row 000, tell 0 1 0 1 -1").due("rows 0 1 0 3", 1).row("000");
        Run.of(SHEETS, "row 00").due("rows 2 2 0 5", 2).row("23").also("set 1 0 5").row("00000");
        Run.of(SHEETS, "row 000").due("rows 2 2 0 3", 3).due("rows 2 2 1 4", 3).row("311");
        Run.of(SHEETS, "set 1 0 0").due("rows 2 2 0 5", 0).row("").also("set 1 0 5").row("00000");
        Run.of("set 1 0 24, sheet 0 1 40, cell 0 39 1").due("rows 0 1 16 24", 24).due("at 23", 1).due("at 22", 0);
    }
}
