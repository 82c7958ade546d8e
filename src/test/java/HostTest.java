/** Promises 29 to 32: sheet, cell, copy, rows. */
public final class HostTest {
    private static final int MOST = Integer.MAX_VALUE;
    private static final int LEAST = Integer.MIN_VALUE;

    public static void main(String[] args) {
        sheets();
        cells();
        narrowCells();
        copies();
        copyRefusals();
        rows();
        rowsRefusals();
        Due.finish();
    }

    private static void sheets() {
        EvenlyPoured tea = new EvenlyPoured();
        Due.due("sheet(4, 0, 1)", tea.sheet(4, 0, 1), -2);
        Due.due("sheet(-1, 0, 1)", tea.sheet(-1, 0, 1), -2);
        Due.due("sheet(0, 3, 1)", tea.sheet(0, 3, 1), -2);
        Due.due("sheet(0, -2, 1)", tea.sheet(0, -2, 1), -2);
        Due.due("sheet(0, 0, 41)", tea.sheet(0, 0, 41), -2);
        Due.due("sheet(0, 0, -1)", tea.sheet(0, 0, -1), -14);
        Due.due("sheet(0, 3, -1)", tea.sheet(0, 3, -1), -2);
        Due.due("sheet(0, 0, least)", tea.sheet(0, 0, LEAST), -14);
        Due.due("still missing", tea.cell(0, 0, 0), -11);
        Due.due("sheet(0, 0, 40)", tea.sheet(0, 0, 40), 1);
        Due.due("cell(0, 39, 5)", tea.cell(0, 39, 5), 1);
        Due.due("cell(0, 40, 5)", tea.cell(0, 40, 5), -12);
        Due.due("sheet(0, 0, 0)", tea.sheet(0, 0, 0), 1);
        Due.due("cell(0, 0, 5)", tea.cell(0, 0, 5), -12);
        Due.due("sheet(0, -1, 99)", tea.sheet(0, -1, 99), 1);
        Due.due("missing again", tea.cell(0, 0, 0), -11);
        Due.due("sheet(0, -1, -99), missing already", tea.sheet(0, -1, -99), 1);
        Due.due("sheet(4, -1, 0)", tea.sheet(4, -1, 0), -2);
        Due.sheet(tea, 3, 2, 1, 1);
        Due.due("sheet(3, 2, -1) refused", tea.sheet(3, 2, -1), -14);
        Due.due("rows(3, 2, 0, 2): stays as it was", tea.rows(3, 2, 0, 2), 2);
        Due.due("at(0)", tea.at(0), 1);
        Due.due("sheet(3, 2, 2): anew", tea.sheet(3, 2, 2), 1);
        Due.due("rows(3, 2, 0, 2): all 0", tea.rows(3, 2, 0, 2), 2);
        Due.due("at(0)", tea.at(0), 0);
    }

    private static void cells() {
        EvenlyPoured tea = new EvenlyPoured();
        Due.due("cell(4, 0, 0)", tea.cell(4, 0, 0), -2);
        Due.due("cell(-1, 0, 0)", tea.cell(-1, 0, 0), -2);
        Due.due("cell(2, 0, 0), missing", tea.cell(2, 0, 0), -11);
        Due.due("cell(2, -1, 0), missing", tea.cell(2, -1, 0), -11);
        tea.sheet(2, 1, 3);
        Due.due("cell(2, -1, 0)", tea.cell(2, -1, 0), -12);
        Due.due("cell(2, 3, 0)", tea.cell(2, 3, 0), -12);
        Due.due("cell(2, most, 0)", tea.cell(2, MOST, 0), -12);
        Due.due("cell(2, least, 0)", tea.cell(2, LEAST, 0), -12);
        Due.due("cell(2, 2, 1)", tea.cell(2, 2, 1), 1);
        tea.rows(2, 1, 0, 3);
        Due.same("the row", Due.rowOf(tea), "00100000");
    }

    /** Which cup a drib goes into by one number of a sort; -1: none. */
    private static void taken(int sort, int number, int want) {
        EvenlyPoured tea = new EvenlyPoured();
        tea.set(0, 0, 4);
        Due.sheet(tea, 0, sort, number);
        int became = tea.rows(0, sort, 0, 1);
        Due.due("number " + number + " of sort " + sort, became == 1 ? tea.at(0) : -1, want);
    }

    private static void narrowCells() {
        taken(0, 256 + 3, 3);
        taken(0, -256 + 2, 2);
        taken(0, 128, -1);
        taken(1, 256 + 3, -1);
        taken(1, 65536 + 3, 3);
        taken(1, -65536 + 1, 1);
        taken(2, 65536 + 3, -1);
        taken(2, 3, 3);
        taken(2, 4, -1);
        taken(2, -1, -1);
        taken(0, 255, -1);
        taken(2, LEAST, -1);
    }

    private static String tell(EvenlyPoured tea, int sheet, int sort, int n) {
        tea.set(1, 0, n);
        Due.due("rows of " + sheet, tea.rows(sheet, sort, 0, n), n);
        return Due.rowOf(tea);
    }

    private static void copies() {
        EvenlyPoured tea = new EvenlyPoured();
        tea.set(0, 0, 4);
        Due.sheet(tea, 0, 1, 0, 1, 2, 3, 2, 1);
        Due.sheet(tea, 1, 1, 0, 0, 0, 0);
        Due.due("copy(0, 1, 1, 2, 2)", tea.copy(0, 1, 1, 2, 2), 2);
        Due.same("sheet 1", tell(tea, 1, 1, 4), "0012");
        Due.same("sheet 0 stays", tell(tea, 0, 1, 6), "012321");
        Due.due("copy(0, 0, 0, 1, 5): ahead over itself", tea.copy(0, 0, 0, 1, 5), 5);
        Due.same("sheet 0", tell(tea, 0, 1, 6), "001232");
        Due.due("copy(0, 2, 0, 0, 4): back over itself", tea.copy(0, 2, 0, 0, 4), 4);
        Due.same("sheet 0", tell(tea, 0, 1, 6), "123232");
        Due.due("copy(0, 6, 1, 4, 0): none, at the ends", tea.copy(0, 6, 1, 4, 0), 0);
        Due.due("copy(0, 0, 1, 0, 4)", tea.copy(0, 0, 1, 0, 4), 4);
        Due.same("sheet 1", tell(tea, 1, 1, 4), "1232");
        Due.due("copy(1, 0, 1, 0, 4): onto itself", tea.copy(1, 0, 1, 0, 4), 4);
        Due.same("sheet 1", tell(tea, 1, 1, 4), "1232");
    }

    private static void copyRefusals() {
        EvenlyPoured tea = new EvenlyPoured();
        Due.due("copy(4, 0, 0, 0, 0)", tea.copy(4, 0, 0, 0, 0), -2);
        Due.due("copy(0, 0, 4, 0, 0)", tea.copy(0, 0, 4, 0, 0), -2);
        Due.due("copy(-1, 0, 0, 0, 0)", tea.copy(-1, 0, 0, 0, 0), -2);
        Due.due("copy(0, 0, -1, 0, 0)", tea.copy(0, 0, -1, 0, 0), -2);
        Due.sheet(tea, 0, 0, 1, 1, 1);
        Due.sheet(tea, 1, 1, 1, 1, 1);
        Due.sheet(tea, 2, 0, 0, 0);
        Due.due("copy to a missing one", tea.copy(0, 0, 3, 0, 1), -11);
        Due.due("copy from a missing one", tea.copy(3, 0, 0, 0, 1), -11);
        Due.due("copy from a missing one, n -1", tea.copy(3, 0, 0, 0, -1), -11);
        Due.due("copy(0, 0, 1, 0, 1): unlike", tea.copy(0, 0, 1, 0, 1), -13);
        Due.due("copy(0, 9, 1, 0, -1): unlike", tea.copy(0, 9, 1, 0, -1), -13);
        Due.due("copy(0, 0, 1, 0, 0): unlike", tea.copy(0, 0, 1, 0, 0), -13);
        Due.due("copy(0, 0, 2, 0, -1)", tea.copy(0, 0, 2, 0, -1), -12);
        Due.due("copy(0, 0, 2, 0, 3)", tea.copy(0, 0, 2, 0, 3), -12);
        Due.due("copy(0, 2, 2, 0, 2)", tea.copy(0, 2, 2, 0, 2), -12);
        Due.due("copy(0, 0, 2, 1, 2)", tea.copy(0, 0, 2, 1, 2), -12);
        Due.due("copy(0, -1, 2, 0, 1)", tea.copy(0, -1, 2, 0, 1), -12);
        Due.due("copy(0, 0, 2, -1, 1)", tea.copy(0, 0, 2, -1, 1), -12);
        Due.due("copy(0, 4, 2, 0, 0)", tea.copy(0, 4, 2, 0, 0), -12);
        Due.due("copy(0, 0, 2, 3, 0)", tea.copy(0, 0, 2, 3, 0), -12);
        Due.due("copy(0, most, 2, 0, most)", tea.copy(0, MOST, 2, 0, MOST), -12);
        Due.due("copy(0, 1, 2, 1, most)", tea.copy(0, 1, 2, 1, MOST), -12);
        Due.due("copy(0, 0, 2, 0, least)", tea.copy(0, 0, 2, 0, LEAST), -12);
        Due.same("sheet 2 stays", tell(tea, 2, 0, 2), "00");
    }

    private static void rows() {
        EvenlyPoured tea = new EvenlyPoured();
        Due.sheet(tea, 0, 2, 1, 1, 2, -1, 0, 1);
        Due.due("rows(0, 2, 0, 0)", tea.rows(0, 2, 0, 0), 0);
        Due.same("the row stays", Due.rowOf(tea), "00000000");
        Due.due("rows(0, 2, 0, 4)", tea.rows(0, 2, 0, 4), 2);
        Due.same("the row", Due.rowOf(tea), "11000000");
        tea.lay(0, 0);
        tea.lay(2, 1);
        Due.due("rows(0, 2, 2, 4)", tea.rows(0, 2, 2, 4), 2);
        Due.same("the row", Due.rowOf(tea), "01010000");
        tea.set(1, 0, 2);
        Due.due("rows(0, 2, 0, 6): 2 dribs are there", tea.rows(0, 2, 0, 6), 2);
        Due.same("the row", Due.rowOf(tea), "11");
        tea.set(1, 0, 0);
        Due.due("rows(0, 2, 0, 6): none is there", tea.rows(0, 2, 0, 6), 0);
        tea.set(1, 0, 6);
        Due.same("no drib that wasn't there was laid", Due.rowOf(tea), "000000");
        tea.sheet(1, 0, 40);
        tea.set(1, 0, 24);
        Due.due("rows(1, 0, 16, 24)", tea.rows(1, 0, 16, 24), 24);
        Due.due("rows(1, 0, 17, 24)", tea.rows(1, 0, 17, 24), -12);
    }

    private static void rowsRefusals() {
        EvenlyPoured tea = new EvenlyPoured();
        Due.sheet(tea, 0, 1, 1, 1, 1);
        Due.due("rows(4, 0, 0, 0)", tea.rows(4, 0, 0, 0), -2);
        Due.due("rows(-1, 0, 0, 0)", tea.rows(-1, 0, 0, 0), -2);
        Due.due("rows(0, 3, 0, 0)", tea.rows(0, 3, 0, 0), -2);
        Due.due("rows(0, -1, 0, 0)", tea.rows(0, -1, 0, 0), -2);
        Due.due("rows(0, 1, 0, 25)", tea.rows(0, 1, 0, 25), -2);
        Due.due("rows(0, 1, 0, -1)", tea.rows(0, 1, 0, -1), -2);
        Due.due("rows(1, 0, 0, 25), missing", tea.rows(1, 0, 0, 25), -2);
        Due.due("rows(1, 0, 0, 0), missing", tea.rows(1, 0, 0, 0), -11);
        Due.due("rows(1, 2, 9, 1), missing", tea.rows(1, 2, 9, 1), -11);
        Due.due("rows(0, 0, 0, 0), unlike", tea.rows(0, 0, 0, 0), -13);
        Due.due("rows(0, 2, 9, 1), unlike", tea.rows(0, 2, 9, 1), -13);
        Due.due("rows(0, 1, 9, 0), none is asked for", tea.rows(0, 1, 9, 0), 0);
        Due.due("rows(0, 1, -1, 2)", tea.rows(0, 1, -1, 2), -12);
        Due.due("rows(0, 1, most, 3)", tea.rows(0, 1, MOST, 3), -12);
        Due.due("rows(0, 1, least, 3)", tea.rows(0, 1, LEAST, 3), -12);
        Due.same("the row stays", Due.rowOf(tea), "00000000");
        Due.due("rows(0, 1, 1, 3)", tea.rows(0, 1, 1, 3), -12);
        Due.same("what stood ahead became so", Due.rowOf(tea), "11000000");
        tea.set(1, 0, 2);
        Due.due("rows(0, 1, 0, 4): outside, though no drib is there", tea.rows(0, 1, 0, 4), -12);
        Due.same("what stood ahead became so", Due.rowOf(tea), "11");
    }
}
