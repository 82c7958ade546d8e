/** Promises 10 to 16: cup, all, mean, evenest, become, fewest, next. */
public final class PouringTest {
    private static final long NO = -4611686018427387904L;

    public static void main(String[] args) {
        cups();
        wholes();
        evenPowers();
        means();
        evenest();
        evenestByRules();
        become();
        fewest();
        next();
        tooManyWays();
        Due.finish();
    }

    private static void cups() {
        EvenlyPoured tea = new EvenlyPoured();
        tea.set(0, 0, 3);
        Due.row(tea, "0120");
        Due.due("full 0", tea.cup(0, 0), 2);
        Due.due("full 2", tea.cup(2, 0), 1);
        Due.due("strength 0", tea.cup(0, 1), 5);
        Due.due("strength 1", tea.cup(1, 1), 2);
        Due.due("strength 2", tea.cup(2, 1), 3);
        Due.due("liked", tea.cup(1, 2), 12);
        Due.due("cup(3, 0)", tea.cup(3, 0), -2);
        Due.due("cup(-1, 0)", tea.cup(-1, 0), -2);
        Due.due("cup(0, 3)", tea.cup(0, 3), -2);
        Due.due("cup(0, -1)", tea.cup(0, -1), -2);
        tea.set(1, 0, 0);
        Due.due("full, no dribs", tea.cup(2, 0), 0);
        Due.due("strength, no dribs", tea.cup(2, 1), 0);
        Due.due("liked, no dribs", tea.cup(2, 2), 0);
    }

    private static void wholes() {
        EvenlyPoured tea = new EvenlyPoured();
        tea.set(0, 0, 3);
        Due.rule(tea, "strong 10+drib;drips drib+full;liked 20+cup;");
        Due.row(tea, "011022");
        // 10 into 0; 11 less 1, 12 into 1; 13 less 4 into 0; 14 less 4, 15 into 2.
        Due.due("strength 0", tea.cup(0, 1), 19);
        Due.due("strength 1", tea.cup(1, 1), 22);
        Due.due("strength 2", tea.cup(2, 1), 25);
        Due.due("uneven", tea.all(0), 6);
        Due.due("odd", tea.all(1), 1 + 1 + 3);
        Due.due("changes", tea.all(2), 3);
        Due.due("dripped", tea.all(3), 9);
        Due.due("power", tea.all(4), 0);
        Due.due("all(5)", tea.all(5), -2);
        Due.due("all(-1)", tea.all(-1), -2);
        tea.set(1, 0, 1);
        Due.due("one drib: changes", tea.all(2), 0);
        Due.due("one drib: uneven", tea.all(0), 10);
    }

    private static void power(int cups, String row, int want) {
        EvenlyPoured tea = new EvenlyPoured();
        tea.set(0, 0, cups);
        Due.row(tea, row);
        Due.due("power of " + row, tea.all(4), want);
    }

    private static void evenPowers() {
        power(2, "", 4);
        power(2, "0", -1);
        power(2, "01", 0);
        power(2, "0110", 1);
        power(2, "01101001", 2);
        power(2, "0110100110010110", 3);
        power(2, "1001011001101001", 3);
        power(2, "0011", 0);
        power(2, "0001", -1);
        power(3, "01", -1);
        power(3, "012120201", 1);
        power(3, "012012012", 0);
        power(1, "000", 4);
        power(4, "0123321032100123", 1);
        // The sums to power 0 differ, those to power 1 are alike: not even to 0.
        power(2, "1110", -1);
    }

    private static void means() {
        EvenlyPoured tea = new EvenlyPoured();
        Due.row(tea, "0100");
        Due.due("mean(0, 0): 8 by 3", tea.mean(0, 0), 8);
        Due.due("mean(0, 1)", tea.mean(0, 1), 3);
        Due.due("mean(1, 0): 2 by 1", tea.mean(1, 0), 2);
        Due.due("mean(1, 1)", tea.mean(1, 1), 1);
        Due.due("mean(2, 0)", tea.mean(2, 0), NO);
        Due.due("mean(-1, 0)", tea.mean(-1, 0), NO);
        Due.due("mean(0, 2)", tea.mean(0, 2), NO);
        Due.due("mean(0, -1)", tea.mean(0, -1), NO);
        Due.row(tea, "000111");
        Due.due("mean(0, 0): 6 by 3", tea.mean(0, 0), 2);
        Due.due("mean(0, 1)", tea.mean(0, 1), 1);
        Due.row(tea, "1111");
        Due.due("mean(0, 0): no drib", tea.mean(0, 0), NO);
        Due.due("mean(0, 1): no drib", tea.mean(0, 1), NO);
        Due.due("mean(1, 0): 10 by 4", tea.mean(1, 0), 5);
        Due.due("mean(1, 1)", tea.mean(1, 1), 2);
        Due.rule(tea, "strong 0;drips 0;liked 0;");
        Due.due("mean(1, 0): 0 by 4", tea.mean(1, 0), 0);
        Due.due("mean(1, 1)", tea.mean(1, 1), 1);
    }

    private static String evenestRow(EvenlyPoured tea) {
        StringBuilder row = new StringBuilder();
        for (int k = 0; k < tea.count(1); k++) {
            row.append(tea.evenest(2 + k));
        }
        return row.toString();
    }

    private static void evenest() {
        EvenlyPoured tea = new EvenlyPoured();
        tea.lay(5, 1);
        Due.due("evenest(0)", tea.evenest(0), 0);
        Due.due("evenest(1)", tea.evenest(1), 2);
        // 3 + 4 + 5 + 6 is 18.
        Due.same("evenest of 8", evenestRow(tea), "00111100");
        Due.same("the row stays", Due.rowOf(tea), "00000100");
        Due.due("evenest(-1)", tea.evenest(-1), -2);
        Due.due("evenest(10)", tea.evenest(10), -2);
        Due.due("evenest(26)", tea.evenest(26), -2);
        tea.set(1, 0, 3);
        // Two and one: 1 + 2 against 3.
        Due.due("3 dribs: evenest(0)", tea.evenest(0), 0);
        Due.due("3 dribs: evenest(1)", tea.evenest(1), 1);
        Due.same("evenest of 3", evenestRow(tea), "001");
        Due.due("3 dribs: evenest(5)", tea.evenest(5), -2);
        tea.set(1, 0, 0);
        Due.due("no dribs: evenest(0)", tea.evenest(0), 0);
        Due.due("no dribs: evenest(1)", tea.evenest(1), 0);
        Due.due("no dribs: evenest(2)", tea.evenest(2), -2);
        tea.set(0, 0, 4);
        tea.set(1, 0, 2);
        // None may have two, while others have none.
        Due.due("4 cups, 2 dribs: evenest(0)", tea.evenest(0), 2);
        Due.same("evenest of 4 cups", evenestRow(tea), "01");
        tea.set(0, 0, 1);
        tea.set(1, 0, 24);
        Due.due("1 cup: evenest(0)", tea.evenest(0), 0);
        Due.due("1 cup: evenest(25)", tea.evenest(25), 0);
        Due.due("1 cup: evenest(26)", tea.evenest(26), -2);
    }

    private static void evenestByRules() {
        EvenlyPoured tea = new EvenlyPoured();
        tea.set(1, 0, 4);
        Due.due("rule 0", tea.evenest(0), 0);
        Due.same("rule 0", evenestRow(tea), "0110");
        // All alike: the one of fewest changes, the first of two.
        Due.rule(tea, "strong 5;drips 0;liked 0;");
        Due.same("all alike", evenestRow(tea), "0011");
        // 10 against 16 by one change; 1010 is 6 apart as well, by three.
        Due.rule(tea, "strong 5+(cup=0)*5;drips 4;liked 0;");
        Due.due("drips: uneven", tea.evenest(0), 6);
        Due.due("drips: changes", tea.evenest(1), 1);
        Due.same("drips: row", evenestRow(tea), "1100");
        Due.rule(tea, "strong full*9+(was=1);drips 0;liked 0;");
        Due.due("full and was: uneven", tea.evenest(0), 0);
        Due.same("full and was: row", evenestRow(tea), "0110");
        tea.force(0);
        Due.same("rule 0 again", evenestRow(tea), "0110");
        tea.set(0, 0, 4);
        Due.same("4 cups", evenestRow(tea), "0123");
        Due.due("4 cups: changes", tea.evenest(1), 3);
    }

    private static void become() {
        EvenlyPoured tea = new EvenlyPoured();
        tea.lay(0, 1);
        Due.due("become", tea.become(), 0);
        Due.same("the row", Due.rowOf(tea), "00111100");
        Due.due("changes", tea.all(2), 2);
        tea.set(1, 0, 5);
        Due.due("become, 5 dribs", tea.become(), 1);
        Due.same("the row of 5", Due.rowOf(tea), "00110");
        Due.due("uneven", tea.all(0), 1);
        tea.set(1, 0, 17);
        tea.lay(16, 1);
        Due.due("become, 17 dribs", tea.become(), -3);
        Due.due("the row stays", tea.at(16), 1);
        tea.set(1, 0, 0);
        Due.due("become, no dribs", tea.become(), 0);
    }

    private static void fewest() {
        EvenlyPoured tea = new EvenlyPoured();
        Due.due("fewest(0)", tea.fewest(0), 2);
        Due.due("fewest(15)", tea.fewest(15), 2);
        // 1 .. 4 against 5 .. 8: 16 apart.
        Due.due("fewest(16)", tea.fewest(16), 1);
        Due.due("fewest(99999)", tea.fewest(99999), 1);
        Due.due("fewest(-1)", tea.fewest(-1), -2);
        Due.due("fewest(100000)", tea.fewest(100000), -2);
        tea.set(1, 0, 1);
        Due.due("one drib: fewest(0)", tea.fewest(0), -1);
        Due.due("one drib: fewest(1)", tea.fewest(1), 0);
        tea.set(1, 0, 0);
        Due.due("no drib: fewest(0)", tea.fewest(0), 0);
        tea.set(0, 0, 4);
        tea.set(1, 0, 6);
        Due.due("6 into 4: fewest(99999)", tea.fewest(99999), 3);
    }

    private static void next() {
        EvenlyPoured tea = new EvenlyPoured();
        Due.due("next(0)", tea.next(0), 1);
        Due.due("next(1)", tea.next(1), 27);
        Due.due("dribs stay", tea.count(1), 8);
        Due.due("next(2)", tea.next(2), -2);
        Due.due("next(-1)", tea.next(-1), -2);
        Due.row(tea, "01");
        // 1 and 2, 3 more: 4 against 2, or 1 against 5.
        Due.due("next(0)", tea.next(0), 0);
        Due.due("next(1)", tea.next(1), 2);
        Due.rule(tea, "strong dribs;drips 0;liked 0;");
        // dribs is 3 for all three: 6 against 3 either way.
        Due.due("next(0), by dribs", tea.next(0), 0);
        Due.due("next(1), by dribs", tea.next(1), 3);
        Due.rule(tea, "strong 5;drips 2;liked 0;");
        // 5 and 3: 5 + 3 against 3, or 5 against 8.
        Due.due("next(0), by drips", tea.next(0), 1);
        Due.due("next(1), by drips", tea.next(1), 3);
        tea.set(1, 0, 24);
        Due.due("next(0), 24 dribs", tea.next(0), -3);
        Due.due("next(2), 24 dribs", tea.next(2), -2);
        tea.set(1, 0, 23);
        Due.due("next(0), 23 dribs", tea.next(0), 1);
    }

    private static void tooManyWays() {
        int[] most = {24, 16, 10, 8};
        for (int cups = 1; cups <= 4; cups++) {
            EvenlyPoured tea = new EvenlyPoured();
            tea.set(0, 0, cups);
            tea.set(1, 0, most[cups - 1]);
            Due.due("evenest(0) >= 0, cups " + cups, tea.evenest(0) >= 0 ? 1 : 0, 1);
            Due.due("become() >= 0, cups " + cups, tea.become() >= 0 ? 1 : 0, 1);
            Due.due("fewest(99999) >= 0, cups " + cups, tea.fewest(99999) >= 0 ? 1 : 0, 1);
            if (cups > 1) {
                int dribs = most[cups - 1] + 1;
                tea.set(1, 0, dribs);
                Due.due("evenest(0), cups " + cups, tea.evenest(0), -3);
                Due.due("evenest(last), cups " + cups, tea.evenest(dribs + 1), -3);
                Due.due("evenest(no such), cups " + cups, tea.evenest(dribs + 2), -2);
                Due.due("become(), cups " + cups, tea.become(), -3);
                Due.due("fewest(0), cups " + cups, tea.fewest(0), -3);
                Due.due("fewest(-1), cups " + cups, tea.fewest(-1), -2);
            }
        }
    }
}
