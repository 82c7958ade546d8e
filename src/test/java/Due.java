/** Counts the answers that are not as due; a test ends with finish(). */
final class Due {
    private static int asked = 0;
    private static int wrong = 0;

    private Due() {
    }

    static void due(String call, long got, long want) {
        asked++;
        if (got != want) {
            wrong++;
            System.out.println(call + " answered " + got + ", due is " + want);
        }
    }

    static void fail(String what) {
        asked++;
        wrong++;
        System.out.println(what);
    }

    /** Feeds a text byte by byte, up to what THE TAPE takes, and makes a TEXT of it. */
    static int read(EvenlyPoured tea, String text) {
        for (int k = 0; k < text.length(); k++) {
            due("feed " + k + " of " + text, tea.feed(text.charAt(k)), k + 1);
        }
        return tea.text();
    }

    /** The text comes to be THE RULE. */
    static void rule(EvenlyPoured tea, String text) {
        int number = read(tea, text);
        if (number < 0) {
            fail("no text: " + text + " answered " + number);
        }
        tea.force(number);
    }

    /** Lays THE ROW: a digit a drib. */
    static void row(EvenlyPoured tea, String cups) {
        due("set(1, 0, " + cups.length() + ") >= 0", tea.set(1, 0, cups.length()) >= 0 ? 1 : 0, 1);
        for (int k = 0; k < cups.length(); k++) {
            due("lay " + k + " of " + cups, tea.lay(k, cups.charAt(k) - '0'), 0);
        }
    }

    /** THE ROW, a digit a drib. */
    static String rowOf(EvenlyPoured tea) {
        StringBuilder row = new StringBuilder();
        for (int k = 0; k < tea.count(1); k++) {
            row.append(tea.at(k));
        }
        return row.toString();
    }

    static void same(String what, String got, String want) {
        asked++;
        if (!got.equals(want)) {
            wrong++;
            System.out.println(what + " is " + got + ", due is " + want);
        }
    }

    /** A sheet of a sort with these numbers. */
    static void sheet(EvenlyPoured tea, int sheet, int sort, int... numbers) {
        due("sheet(" + sheet + ", " + sort + ", " + numbers.length + ")", tea.sheet(sheet, sort, numbers.length), 1);
        for (int k = 0; k < numbers.length; k++) {
            due("cell(" + sheet + ", " + k + ", " + numbers[k] + ")", tea.cell(sheet, k, numbers[k]), 1);
        }
    }

    static void finish() {
        System.out.println(wrong == 0 ? asked + " answers as due" : wrong + " of " + asked + " answers not as due");
        if (wrong != 0) {
            System.exit(1);
        }
    }
}
