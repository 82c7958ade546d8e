/** The edges that the document names in promises 1 to 6: a new object, set, told, lay, at, pourer. */
public final class CupsEdgesTest {
    private static final int BAD = Run.BAD, FULL = Run.FULL, STATE = Run.STATE, NOTHING = Run.NOTHING;
    private static final String SIX = "pourer 0 0, pourer 1 1, pourer 2 2, pourer 3 3, pourer 4 4, pourer 5 5";
    /** Something of everything, so that a refused call that changed a thing would be seen. */
    private static final String RICH = "set 0 0 3, row 012021, pourer 3 4, pourer 5 2, set 3 0 9, set 3 7 98, "
        + "rule strong drib*2+cup+full;drips 1+was;liked 9+cup;, tell 0 0 1 2 0, tell 1 1 2 0 1 1, tell 2 2 6 9 12, "
        + "image, lay 0 2, set 3 1 5, set 2 0 7, force 0, bytes strong 7;drips 0;liked 3;";

    public static void main(String[] args) {
        newObject();
        newObjectsShareNothing();
        cups();
        dribs();
        rowFallsBack();
        numbers();
        prices();
        whatIsSet();
        told();
        lay();
        at();
        pourer();
        pourersAreFull();
        all512Calls();
        Due.finish();
    }

    /** "Two CUPS, 8 dribs, all into CUP 0." "0 at first" "missing (as all are at first)" "TEXT 0, at first THE RULE" */
    private static void newObject() {
        Run tea = Run.of("").due("count 0", 2).due("count 1", 8).row("00000000").due("at 8", BAD).due("lay 0 2", BAD);
        tea.due("count 2", 0).due("told 0 0", BAD).due("count 3", 1).due("force 1", BAD).due("count 4", 0).due("count 5", 0);
        for (int thing = 0; thing < 8; thing++) {
            tea.due("told " + thing + " 2", 0);
        }
        for (int sheet = 0; sheet < 4; sheet++) {
            tea.due("cell " + sheet + " 0 0", NOTHING);
        }
        tea.due("back", STATE).due("which 0", -1).due("text", -100);
        tea.due("cup 0 0", 8).due("cup 0 1", 36).due("cup 0 2", 24).due("cup 1 0", 0).due("cup 1 1", 0).due("cup 1 2", 24);
        tea.due("all 0", 36).due("all 1", 36).due("all 2", 0).due("all 3", 0).due("all 4", -1);
        tea.due("lay 3 1", 0).due("all 2", 2).due("all 3", 0);
    }

    private static void newObjectsShareNothing() {
        Run.of(RICH, "set 0 0 4, set 1 0 24, " + "pourer 1 1, become");
        newObject();
    }

    /** "CUPS (1 .. 4; 2 at first)" */
    private static void cups() {
        Run.of("row 0110").bounds("set 0 0 _", 1, 4, BAD);
        Run.of(RICH).bounds("set 0 0 _", 1, 4, BAD);
        Run.of("").due("set 0 0 1", 2).due("set 0 0 4", 1).due("set 0 0 4", 4).due("set 0 0 2", 4).due("count 0", 2);
    }

    /** "DRIBS (0 .. 24; 8 at first)" */
    private static void dribs() {
        Run.of("row 0110").bounds("set 1 0 _", 0, 24, BAD);
        Run.of(RICH).bounds("set 1 0 _", 0, 24, BAD);
        Run.of("").due("set 1 0 0", 8).due("set 1 0 24", 0).due("set 1 0 24", 24).due("set 1 0 1", 24).due("count 1", 1);
    }

    /** "all dribs go into CUP 0 then": though as many are set; and none that went comes back as it was. */
    private static void rowFallsBack() {
        Run.of("row 0101").due("set 0 0 2", 2).row("0000");
        Run.of("row 0101").due("set 0 0 4", 2).row("0000");
        Run.of("row 0101").due("set 1 0 4", 4).row("0000");
        Run.of("row 0101").due("set 1 0 6", 4).row("000000");
        Run.of("row 0101").due("set 1 0 2", 4).row("00").due("set 1 0 4", 2).row("0000");
        Run.of("row 111111111111111111111111").due("set 1 0 0", 24).row("").due("set 1 0 24", 0).row("000000000000000000000000");
        Run.of("set 0 0 4, row 3333").due("set 0 0 1", 4).due("set 0 0 4", 1).row("0000");
    }

    /** "a NUMBER (0 .. 9)" of "POURERS (6 at most, numbered from 0)" */
    private static void numbers() {
        Run.of("").refused("set 2 0 5", BAD).refused("set 2 -1 5", BAD);
        Run.of(RICH).bounds("set 2 0 _", 0, 9, BAD).bounds("set 2 1 _", 0, 9, BAD).bounds("set 2 _ 5", 0, 1, BAD);
        Run.of(SIX).bounds("set 2 5 _", 0, 9, BAD).bounds("set 2 _ 5", 0, 5, BAD);
        Run.of("row 0110, pourer 0 3").due("set 2 0 9", 3).due("set 2 0 0", 9).due("set 2 0 0", 0).due("told 0 0", 0).row("0110");
        Run.of(SIX).due("set 2 5 9", 5).due("told 5 0", 9).due("told 4 0", 4).due("told 5 1", 5);
    }

    /** "PRICES of THINGS (0 .. 99, 8 THINGS; 0 at first)" */
    private static void prices() {
        Run.of(RICH).bounds("set 3 0 _", 0, 99, BAD).bounds("set 3 7 _", 0, 99, BAD).bounds("set 3 _ 5", 0, 7, BAD);
        Run.of("row 0110").due("set 3 7 99", 0).due("set 3 7 0", 99).due("set 3 0 99", 0).due("told 0 2", 99).row("0110");
        Run.of("set 3 7 99").due("told 7 2", 99).due("told 6 2", 0);
    }

    /** what: 0 .. 3; "BAD". Of CUPS and DRIBS there is one number each: of does not matter. */
    private static void whatIsSet() {
        Run.of(RICH).bounds("set _ 0 4", 0, 3, BAD);
        Run.of("").due("set 0 most 3", 2).due("set 0 least 3", 3).due("set 1 most 3", 8).due("set 1 least 3", 3);
        Run.of("").refused("set 0 most 5", BAD).refused("set 1 least 25", BAD);
    }

    /** "NUMBER (what 0), KIND (1) of a POURER, the PRICE of a THING (2). BAD." */
    private static void told() {
        Run.of(RICH).bounds("told 0 _", 0, 2, BAD).bounds("told 1 _", 0, 2, BAD).bounds("told 7 _", 2, 2, BAD);
        Run.of(RICH).bounds("told _ 0", 0, 1, BAD).bounds("told _ 1", 0, 1, BAD).bounds("told _ 2", 0, 7, BAD);
        Run.of(SIX).bounds("told _ 0", 0, 5, BAD).bounds("told _ 1", 0, 5, BAD).bounds("told _ 2", 0, 7, BAD);
        Run.of("").refused("told 0 0", BAD).refused("told 0 1", BAD).due("told 0 2", 0);
        Run.of(SIX).due("told 0 0", 0).due("told 0 1", 0).due("told 5 0", 5).due("told 5 1", 5);
    }

    /** "for each drib (0 .. DRIBS less 1) the CUP (0 .. CUPS less 1) it goes into" */
    private static void lay() {
        Run.of(RICH).bounds("lay _ 1", 0, 5, BAD).bounds("lay 0 _", 0, 2, BAD).bounds("lay 5 _", 0, 2, BAD);
        Run.of("set 0 0 4, set 1 0 24").bounds("lay _ 3", 0, 23, BAD).bounds("lay 23 _", 0, 3, BAD);
        Run.of("set 0 0 1, set 1 0 1").bounds("lay _ 0", 0, 0, BAD).bounds("lay 0 _", 0, 0, BAD);
        Run.of("set 1 0 0").refused("lay 0 0", BAD).refused("lay -1 0", BAD);
        Run.of("set 0 0 4, set 1 0 24").due("lay 23 3", 0).due("lay 23 0", 3).due("lay 0 3", 0).due("lay 0 3", 3);
        Run.of("set 0 0 3").due("lay 7 2", 0).row("00000002").due("lay 0 1", 0).row("10000002");
    }

    /** "Into which CUP a drib goes. BAD." */
    private static void at() {
        Run.of(RICH).bounds("at _", 0, 5, BAD);
        Run.of("set 0 0 4, set 1 0 24, lay 0 3, lay 23 2").bounds("at _", 0, 23, BAD).due("at 0", 3).due("at 23", 2);
        Run.of("set 1 0 1").bounds("at _", 0, 0, BAD);
        Run.of("set 1 0 0").refused("at 0", BAD).refused("at -1", BAD);
    }

    /** "KIND: 0 .. 5", "a NUMBER (0 .. 9)" */
    private static void pourer() {
        Run.of(RICH).bounds("pourer _ 3", 0, 5, BAD).bounds("pourer 0 _", 0, 9, BAD).bounds("pourer 5 _", 0, 9, BAD);
        Run.of("").due("pourer 0 0", 0).due("pourer 5 9", 1).due("told 0 1", 0).due("told 0 0", 0).due("told 1 1", 5).due("told 1 0", 9);
        Run.of("").refused("pourer 6 0", BAD).due("pourer 1 0", 0);
        Run.of("row 0110").due("pourer 1 0", 0).row("0110");
    }

    /** "POURERS (6 at most": the sixth is taken; BAD is told ahead of FULL; back makes room. */
    private static void pourersAreFull() {
        Run.of("pourer 0 0, pourer 1 1, pourer 2 2, pourer 3 3, pourer 4 4").due("pourer 5 5", 5).due("count 2", 6);
        Run.of(SIX).refused("pourer 0 0", FULL).refused("pourer 5 9", FULL);
        Run.of(SIX).refused("pourer 6 0", BAD).refused("pourer -1 0", BAD).refused("pourer 0 10", BAD).refused("pourer 0 -1", BAD);
        Run.of("pourer 4 4, image, pourer 1 1, pourer 2 2, pourer 3 3, pourer 4 4, pourer 5 5").due("pourer 0 0", FULL)
            .due("back", 8).due("pourer 3 8", 1).due("told 1 0", 8).due("told 1 1", 3).due("count 2", 2);
    }

    /** "An object is used for at most 512 calls": the last of them is answered as the first. */
    private static void all512Calls() {
        EvenlyPoured tea = new EvenlyPoured();
        for (int k = 0; k < 511; k++) {
            Due.due("call " + k, k % 3 == 0 ? tea.text() : k % 3 == 1 ? tea.pourer(0, 10) : tea.back(), k % 3 == 0 ? -100 : k % 3 == 1 ? BAD : STATE);
        }
        Due.due("call 511", tea.all(0), 36);
    }
}
