/** Promises 1 to 6: a new object, set, told, lay, at, pourer. */
public final class CupsTest {
    public static void main(String[] args) {
        newObject();
        setCupsAndDribs();
        setNumbersAndPrices();
        toldOf();
        layAndAt();
        pourers();
        Due.finish();
    }

    private static void newObject() {
        EvenlyPoured tea = new EvenlyPoured();
        Due.due("new: cups", tea.count(0), 2);
        Due.due("new: dribs", tea.count(1), 8);
        Due.due("new: pourers", tea.count(2), 0);
        Due.due("new: texts", tea.count(3), 1);
        Due.due("new: tape", tea.count(4), 0);
        Due.due("new: rule", tea.count(5), 0);
        Due.same("new: the row", Due.rowOf(tea), "00000000");
        for (int thing = 0; thing < 8; thing++) {
            Due.due("new: price " + thing, tea.told(thing, 2), 0);
        }
        for (int sheet = 0; sheet < 4; sheet++) {
            Due.due("new: sheet " + sheet, tea.cell(sheet, 0, 0), -11);
        }
        Due.due("new: back", tea.back(), -3);
        Due.due("new: strength", tea.cup(0, 1), 36);
    }

    private static void setCupsAndDribs() {
        EvenlyPoured tea = new EvenlyPoured();
        tea.lay(3, 1);
        Due.due("set(0, 0, 0)", tea.set(0, 0, 0), -2);
        Due.due("set(0, 0, 5)", tea.set(0, 0, 5), -2);
        Due.due("set(0, 0, -1)", tea.set(0, 0, -1), -2);
        Due.due("set(1, 0, -1)", tea.set(1, 0, -1), -2);
        Due.due("set(1, 0, 25)", tea.set(1, 0, 25), -2);
        Due.due("set(-1, 0, 1)", tea.set(-1, 0, 1), -2);
        Due.due("set(4, 0, 1)", tea.set(4, 0, 1), -2);
        Due.same("the row behind refusals", Due.rowOf(tea), "00010000");
        Due.due("set(0, 99, 4)", tea.set(0, 99, 4), 2);
        Due.same("the row behind set cups", Due.rowOf(tea), "00000000");
        Due.due("lay(3, 3)", tea.lay(3, 3), 0);
        Due.due("set(0, -5, 4)", tea.set(0, -5, 4), 4);
        Due.due("at(3), cups set to as many", tea.at(3), 0);
        tea.lay(7, 3);
        Due.due("set(1, 77, 8)", tea.set(1, 77, 8), 8);
        Due.due("at(7), dribs set to as many", tea.at(7), 0);
        tea.lay(7, 3);
        Due.due("set(1, 0, 24)", tea.set(1, 0, 24), 8);
        Due.same("24 dribs", Due.rowOf(tea), "000000000000000000000000");
        tea.lay(23, 2);
        Due.due("set(1, 0, 0)", tea.set(1, 0, 0), 24);
        Due.due("set(1, 0, 24) again", tea.set(1, 0, 24), 0);
        Due.due("at(23)", tea.at(23), 0);
        Due.due("set(0, 0, 1)", tea.set(0, 0, 1), 4);
        Due.due("cups", tea.count(0), 1);
    }

    private static void setNumbersAndPrices() {
        EvenlyPoured tea = new EvenlyPoured();
        Due.due("set(2, 0, 1), no pourer", tea.set(2, 0, 1), -2);
        tea.pourer(3, 7);
        tea.pourer(0, 2);
        Due.due("set(2, 0, 9)", tea.set(2, 0, 9), 7);
        Due.due("set(2, 1, 0)", tea.set(2, 1, 0), 2);
        Due.due("set(2, 0, 10)", tea.set(2, 0, 10), -2);
        Due.due("set(2, 0, -1)", tea.set(2, 0, -1), -2);
        Due.due("set(2, 2, 1)", tea.set(2, 2, 1), -2);
        Due.due("set(2, -1, 1)", tea.set(2, -1, 1), -2);
        Due.due("told(0, 0)", tea.told(0, 0), 9);
        Due.due("told(1, 0)", tea.told(1, 0), 0);
        Due.due("set(3, 7, 99)", tea.set(3, 7, 99), 0);
        Due.due("set(3, 7, 0)", tea.set(3, 7, 0), 99);
        Due.due("set(3, 0, 100)", tea.set(3, 0, 100), -2);
        Due.due("set(3, 0, -1)", tea.set(3, 0, -1), -2);
        Due.due("set(3, 8, 1)", tea.set(3, 8, 1), -2);
        Due.due("set(3, -1, 1)", tea.set(3, -1, 1), -2);
        Due.due("told(0, 2)", tea.told(0, 2), 0);
        tea.lay(0, 1);
        tea.set(2, 0, 5);
        tea.set(3, 0, 5);
        Due.due("at(0): numbers and prices leave the row", tea.at(0), 1);
    }

    private static void toldOf() {
        EvenlyPoured tea = new EvenlyPoured();
        tea.pourer(4, 6);
        tea.set(3, 2, 42);
        Due.due("told(0, 0)", tea.told(0, 0), 6);
        Due.due("told(0, 1)", tea.told(0, 1), 4);
        Due.due("told(2, 2)", tea.told(2, 2), 42);
        Due.due("told(1, 0)", tea.told(1, 0), -2);
        Due.due("told(1, 1)", tea.told(1, 1), -2);
        Due.due("told(-1, 0)", tea.told(-1, 0), -2);
        Due.due("told(-1, 1)", tea.told(-1, 1), -2);
        Due.due("told(-1, 2)", tea.told(-1, 2), -2);
        Due.due("told(8, 2)", tea.told(8, 2), -2);
        Due.due("told(0, 3)", tea.told(0, 3), -2);
        Due.due("told(0, -1)", tea.told(0, -1), -2);
    }

    private static void layAndAt() {
        EvenlyPoured tea = new EvenlyPoured();
        Due.due("lay(7, 1)", tea.lay(7, 1), 0);
        Due.due("lay(7, 0)", tea.lay(7, 0), 1);
        Due.due("lay(0, 1)", tea.lay(0, 1), 0);
        Due.due("lay(8, 1)", tea.lay(8, 1), -2);
        Due.due("lay(-1, 1)", tea.lay(-1, 1), -2);
        Due.due("lay(1, 2)", tea.lay(1, 2), -2);
        Due.due("lay(1, -1)", tea.lay(1, -1), -2);
        Due.same("the row", Due.rowOf(tea), "10000000");
        Due.due("at(0)", tea.at(0), 1);
        Due.due("at(7)", tea.at(7), 0);
        Due.due("at(8)", tea.at(8), -2);
        Due.due("at(-1)", tea.at(-1), -2);
        Due.due("at(least int)", tea.at(Integer.MIN_VALUE), -2);
        tea.set(1, 0, 0);
        Due.due("at(0), no dribs", tea.at(0), -2);
        Due.due("lay(0, 0), no dribs", tea.lay(0, 0), -2);
    }

    private static void pourers() {
        EvenlyPoured tea = new EvenlyPoured();
        Due.due("pourer(6, 0)", tea.pourer(6, 0), -2);
        Due.due("pourer(-1, 0)", tea.pourer(-1, 0), -2);
        Due.due("pourer(0, 10)", tea.pourer(0, 10), -2);
        Due.due("pourer(0, -1)", tea.pourer(0, -1), -2);
        for (int kind = 0; kind < 6; kind++) {
            Due.due("pourer " + kind, tea.pourer(kind, 9 - kind), kind);
        }
        for (int kind = 0; kind < 6; kind++) {
            Due.due("number " + kind, tea.told(kind, 0), 9 - kind);
            Due.due("kind " + kind, tea.told(kind, 1), kind);
        }
        Due.due("pourer(0, 0), 6 are there", tea.pourer(0, 0), -4);
        Due.due("pourer(6, 0), 6 are there", tea.pourer(6, 0), -2);
        Due.due("pourer(0, 10), 6 are there", tea.pourer(0, 10), -2);
        Due.due("pourers", tea.count(2), 6);
    }
}
