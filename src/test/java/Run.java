import java.util.ArrayList;
import java.util.Arrays;
import java.util.List;

/**
 * A run of calls on a new object, told as words: "set 0 0 3, lay 2 1". Besides the face's calls there are
 * "row 0110" (DRIBS and THE ROW), "tell 0 2 5 5" (a SHEET, its sort, its numbers), "bytes .." (fed one by one),
 * "read .." (fed, then text) and "rule .." (read, then force). most and least stand for the ends of an int.
 */
final class Run {
    static final long NO = -4611686018427387904L;
    static final int BAD = -2, STATE = -3, FULL = -4, NOTHING = -11, OUTSIDE = -12, OTHER = -13, BELOW = -14;

    /** What the document promises of an object ends behind so many calls. */
    private static final int CALLS_MOST = 512;

    private final EvenlyPoured tea = new EvenlyPoured();
    private final List<String> history = new ArrayList<>();
    private int calls = 0;

    static Run of(String... words) {
        Run run = new Run();
        for (String part : words) {
            run.also(part);
        }
        return run;
    }

    Run also(String words) {
        for (String word : words.split(", ")) {
            if (!word.isEmpty()) {
                make(word);
            }
        }
        return this;
    }

    /** The call answers so. */
    Run due(String call, long want) {
        String ahead = String.join(", ", history);
        Due.due(ahead + " | " + call, make(call), want);
        return this;
    }

    /** THE ROW is so, a digit a drib, and there is no drib more. */
    Run row(String want) {
        due("count 1", want.length());
        for (int drib = 0; drib < want.length(); drib++) {
            due("at " + drib, want.charAt(drib) - '0');
        }
        return this;
    }

    /** The call answers so, and changes nothing: an object without that call answers all alike. */
    Run refused(String call, long want) {
        Run twin = of(history.toArray(new String[0]));
        Run probed = of(history.toArray(new String[0]));
        probed.due(call, want);
        long[] with = probed.probe();
        long[] without = twin.probe();
        Due.same(String.join(", ", history) + " | behind " + call, Arrays.toString(with), Arrays.toString(without));
        return this;
    }

    /** What is asked with _ is a number within: the ends are taken, what is beyond them is refused. */
    Run bounds(String call, int least, int most, long refusal) {
        for (int taken : new int[] {least, most}) {
            Run run = of(history.toArray(new String[0]));
            boolean isTaken = run.make(call.replace("_", String.valueOf(taken))) != refusal;
            Due.due(String.join(", ", history) + " | taken: " + call + " with " + taken, isTaken ? 1 : 0, 1);
        }
        for (int beyond : new int[] {least - 1, most + 1, Integer.MIN_VALUE, Integer.MAX_VALUE}) {
            refused(call.replace("_", String.valueOf(beyond)), refusal);
        }
        return this;
    }

    private long make(String word) {
        history.add(word);
        String name = word.split(" ")[0];
        String rest = word.substring(Math.min(name.length() + 1, word.length()));
        switch (name) {
            case "bytes":
                return feed(rest);
            case "read":
                feed(rest);
                return call("text");
            case "rule":
                feed(rest);
                return call("force", (int) call("text"));
            case "row":
                call("set", 1, 0, rest.length());
                for (int drib = 0; drib < rest.length(); drib++) {
                    call("lay", drib, rest.charAt(drib) - '0');
                }
                return rest.length();
            case "tell":
                return tell(numbers(rest));
            default:
                return call(name, numbers(rest));
        }
    }

    private long feed(String text) {
        long size = 0;
        for (int k = 0; k < text.length(); k++) {
            size = call("feed", text.charAt(k));
        }
        return size;
    }

    private long tell(int[] told) {
        long answer = call("sheet", told[0], told[1], told.length - 2);
        for (int k = 2; k < told.length; k++) {
            call("cell", told[0], k - 2, told[k]);
        }
        return answer;
    }

    private static int[] numbers(String words) {
        if (words.isEmpty()) {
            return new int[0];
        }
        String plain = words.replace("most", "2147483647").replace("least", "-2147483648");
        return Arrays.stream(plain.split(" ")).mapToInt(Integer::parseInt).toArray();
    }

    private long call(String name, int... a) {
        calls++;
        if (calls > CALLS_MOST) {
            Due.fail("more than 512 calls: " + history.get(0));
        }
        return Calls.make(tea, name, a);
    }

    // ---- all that an object can tell of itself

    private final List<Long> answers = new ArrayList<>();

    private void ask(String name, int... a) {
        answers.add(call(name, a));
    }

    /** First what changes nothing, then what has to change a thing to tell it. */
    private long[] probe() {
        counts();
        poured();
        sheets();
        ask("back");
        counts();
        texts();
        return answers.stream().mapToLong(Long::longValue).toArray();
    }

    private void counts() {
        for (int what = 0; what < 6; what++) {
            ask("count", what);
        }
        for (int k = 0; k < tea.count(2); k++) {
            ask("told", k, 0);
            ask("told", k, 1);
        }
        for (int thing = 0; thing < 8; thing++) {
            ask("told", thing, 2);
        }
        for (int drib = 0; drib < tea.count(1); drib++) {
            ask("at", drib);
        }
    }

    private void poured() {
        for (int what = 0; what < 4; what++) {
            ask("all", what);
        }
        ask("cup", 0, 2);
        ask("evenest", 0);
        ask("fewest", 20);
        ask("next", 1);
        ask("which", 1);
        ask("drawn", 7, 20);
    }

    /** Sheets of few items, by rows: size, sort and what is a CUP; the rest by whom. */
    private void sheets() {
        for (int sheet = 0; sheet < 4; sheet++) {
            ask("whom", sheet);
            ask("forgotten", sheet);
        }
        call("set", 0, 0, 4);
        call("set", 1, 0, 6);
        for (int sheet = 0; sheet < 4; sheet++) {
            for (int sort = 0; sort < 3; sort++) {
                ask("rows", sheet, sort, 0, 6);
            }
            for (int n = 1; n < 6; n++) {
                ask("cell", sheet, n, 3);
            }
            for (int drib = 0; drib < 6; drib++) {
                ask("at", drib);
            }
        }
    }

    private void texts() {
        ask("text");
        for (int text = 0; text < tea.count(3); text++) {
            ask("force", text);
            ask("all", 0);
            ask("cup", 0, 2);
        }
        ask("feed", 'x');
    }
}
