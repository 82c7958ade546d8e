import java.util.Arrays;
import java.util.Random;

/** Runs of calls by lot (always the same lots) on the class and on the model: all answers are alike. */
public final class ModelTest {
    private static final String[] NAMES = {
        "set", "told", "lay", "at", "pourer", "feed", "text", "force", "cup", "all", "mean", "evenest", "become",
        "fewest", "next", "poured", "follow", "which", "captains", "tastes", "whom", "forgotten", "drawn", "chance",
        "image", "back", "count", "sheet", "cell", "copy", "rows", "taken",
    };
    private static final int[] WILD = {Integer.MIN_VALUE, Integer.MAX_VALUE, -3, -2, -1, 0, 1, 5, 24, 25, 26, 41};

    private final Random lot;
    private final EvenlyPoured tea = new EvenlyPoured();
    private final Model model = new Model();
    private final String run;

    private ModelTest(long seed) {
        lot = new Random(seed);
        run = "run " + seed;
    }

    /** Without arguments 400 runs; else from the seed that is told, as many as told. */
    public static void main(String[] args) {
        long from = args.length > 0 ? Long.parseLong(args[0]) : 1;
        long runs = args.length > 1 ? Long.parseLong(args[1]) : 400;
        for (long seed = from; seed < from + runs; seed++) {
            new ModelTest(seed).go();
        }
        Due.finish();
    }

    private void go() {
        int calls = 0;
        while (calls < 480) {
            int chosen = lot.nextInt(NAMES.length + 6);
            if (chosen < NAMES.length) {
                call(chosen, arguments(chosen));
                calls++;
            } else if (chosen < NAMES.length + 3) {
                calls += feedText(lot.nextInt(3) == 0);
            } else {
                calls += tellStrengths();
            }
        }
    }

    private int within(int least, int most) {
        if (lot.nextInt(25) == 0) {
            return lot.nextBoolean() ? WILD[lot.nextInt(WILD.length)] : lot.nextBoolean() ? least - 1 : most + 1;
        }
        return most < least ? least : least + lot.nextInt(most - least + 1);
    }

    private int[] arguments(int call) {
        int cups = model.count(0);
        int dribs = model.count(1);
        int pourers = model.count(2);
        switch (NAMES[call]) {
            case "set":
                int what = within(0, 3);
                return new int[] {what, what == 2 ? within(0, pourers - 1) : within(0, 7), toSet(what)};
            case "told":
                return new int[] {within(0, lot.nextBoolean() ? pourers - 1 : 7), within(0, 2)};
            case "lay":
                return new int[] {within(0, dribs - 1), within(0, cups - 1)};
            case "at":
                return new int[] {within(0, dribs - 1)};
            case "pourer":
                return new int[] {within(0, 5), within(0, 9)};
            case "feed":
                return new int[] {within(0, 255)};
            case "force":
                return new int[] {within(0, model.count(3) - 1)};
            case "cup":
                return new int[] {within(0, cups - 1), within(0, 2)};
            case "all":
                return new int[] {within(0, 4)};
            case "mean":
                return new int[] {within(0, cups - 1), within(0, 1)};
            case "evenest":
                return new int[] {within(0, 1 + dribs)};
            case "fewest":
                return new int[] {within(0, lot.nextBoolean() ? 10 : 1000)};
            case "next":
            case "which":
                return new int[] {within(0, 1)};
            case "poured":
                return new int[] {within(0, pourers - 1), within(-1, dribs - 1)};
            case "follow":
                return new int[] {within(0, pourers - 1)};
            case "captains":
                return new int[] {within(-1, cups - 1)};
            case "drawn":
                return new int[] {lot.nextInt(), within(0, 20)};
            case "chance":
                return new int[] {lot.nextInt(), within(1, 20), within(0, 20), within(0, 1)};
            case "count":
                return new int[] {within(0, 5)};
            case "taken":
                return new int[] {within(0, pourers - 1), within(0, 5)};
            default:
                return hostArguments(call, cups);
        }
    }

    private int toSet(int what) {
        if (what == 1) {
            return lot.nextInt(4) == 0 ? within(0, 24) : within(0, 7);
        }
        return within(what == 0 ? 1 : 0, what == 0 ? 4 : what == 2 ? 9 : 99);
    }

    private int[] hostArguments(int call, int cups) {
        switch (NAMES[call]) {
            case "tastes":
                return new int[] {within(0, 3), within(0, 1)};
            case "whom":
            case "forgotten":
                return new int[] {within(0, 3)};
            case "sheet":
                return new int[] {within(0, 3), within(-1, 2), lot.nextBoolean() ? cups : within(0, 40)};
            case "cell":
                return new int[] {within(0, 3), within(0, 8), lot.nextInt(4) == 0 ? lot.nextInt() : within(0, 9)};
            case "copy":
                return new int[] {within(0, 3), within(0, 5), within(0, 3), within(0, 5), within(0, 5)};
            case "rows":
                return new int[] {within(0, 3), within(0, 2), within(0, 5), within(0, 9)};
            default:
                return new int[0];
        }
    }

    /** A text as it should be, or one that is spoilt here and there, and by and by the rule. */
    private int feedText(boolean spoilt) {
        if (model.count(3) == 6 && lot.nextInt(8) > 0) {
            return 1;
        }
        StringBuilder text = new StringBuilder();
        text.append("strong ").append(either(0)).append(blank()).append(";").append(blank());
        text.append("drips ").append(either(0)).append(";").append(blank()).append("liked ");
        text.append(either(0)).append(blank()).append(";").append(blank());
        for (int k = 0; spoilt && k < 1 + lot.nextInt(2); k++) {
            spoil(text);
        }
        int n = Math.min(text.length(), 161);
        for (int k = 0; k < n; k++) {
            call(5, new int[] {text.charAt(k)});
        }
        call(6, new int[0]);
        call(7, new int[] {model.count(3) - 1});
        return 12;
    }

    private void spoil(StringBuilder text) {
        String[] odd = {"(", ")", ";", "+", "-", "*", "<", "=", "or ", " and ", "not ", "1", "12345", "x", "cup", "#", ">"};
        int place = lot.nextInt(text.length());
        switch (lot.nextInt(3)) {
            case 0:
                text.deleteCharAt(place);
                break;
            case 1:
                text.insert(place, odd[lot.nextInt(odd.length)]);
                break;
            default:
                text.setLength(place + 1);
                break;
        }
    }

    private String blank() {
        return lot.nextInt(3) > 0 ? "" : lot.nextBoolean() ? " " : "\n";
    }

    private String either(int depth) {
        int sort = lot.nextInt(14);
        if (depth > 5 || sort < 5) {
            return one(depth + 1);
        }
        switch (sort) {
            case 5:
                return both(depth) + " or " + both(depth);
            case 6:
                return both(depth) + " and " + both(depth);
            case 7:
                return "not " + both(depth);
            case 8:
                return one(depth) + "<" + one(depth);
            case 9:
                return one(depth) + "=" + one(depth);
            default:
                return one(depth) + blank() + "+-*".charAt(lot.nextInt(3)) + blank() + one(depth) + blank()
                    + "+-*".charAt(lot.nextInt(3)) + one(depth);
        }
    }

    private String both(int depth) {
        return lot.nextInt(3) > 0 ? one(depth) : lot.nextBoolean() ? "not " + both(depth) : one(depth) + "<" + one(depth);
    }

    private String one(int depth) {
        String[] names = {"drib", "dribs", "cups", "cup", "full", "was"};
        int sort = lot.nextInt(12);
        if (sort < 6) {
            return names[sort];
        }
        if (sort < 10 || depth > 5) {
            return String.valueOf(lot.nextInt(lot.nextInt(6) == 0 ? 10000 : 40));
        }
        return sort == 10 ? "-" + one(depth + 1) : "(" + blank() + either(depth + 2) + ")";
    }

    /** A sheet of strengths that can be, of another row than the one that stays. */
    private int tellStrengths() {
        int cups = model.count(0);
        int dribs = model.count(1);
        int sheet = lot.nextInt(4);
        int[] before = new int[dribs];
        for (int drib = 0; drib < dribs; drib++) {
            before[drib] = model.at(drib);
            if (lot.nextInt(3) == 0) {
                model.lay(drib, lot.nextInt(cups));
            }
        }
        if (model.count(2) > 0 && lot.nextInt(2) == 0) {
            model.follow(lot.nextInt(model.count(2)));
        }
        int[] strengths = new int[cups];
        for (int cup = 0; cup < cups; cup++) {
            strengths[cup] = model.cup(cup, 1);
        }
        for (int drib = 0; drib < dribs; drib++) {
            model.lay(drib, before[drib]);
        }
        if (lot.nextInt(2) == 0) {
            strengths[lot.nextInt(cups)] += 1;
        }
        call(27, new int[] {sheet, within(0, 2), cups});
        for (int cup = 0; cup < cups; cup++) {
            call(28, new int[] {sheet, cup, strengths[cup]});
        }
        call(19, new int[] {sheet, 0});
        call(19, new int[] {sheet, 1});
        call(20, new int[] {sheet});
        call(21, new int[] {sheet});
        return 5 + cups;
    }

    /** The model is slow: all of many ways it goes through seldom. */
    private boolean isTooDear(int call) {
        double ways = Math.pow(model.count(0), model.count(1));
        boolean dear = (call >= 11 && call <= 13) || call == 19;
        return dear && ways > 300 && ways <= 65536 && lot.nextInt(ways > 4000 ? 400 : 12) > 0;
    }

    private void call(int call, int[] a) {
        if (isTooDear(call)) {
            return;
        }
        long got = Calls.make(tea, NAMES[call], a);
        long want = ofModel(call, a);
        if (got != want) {
            Due.due(run + ": " + NAMES[call] + Arrays.toString(a), got, want);
        } else {
            Due.due("", 0, 0);
        }
    }

    private long ofModel(int call, int[] a) {
        switch (NAMES[call]) {
            case "set": return model.set(a[0], a[1], a[2]);
            case "told": return model.told(a[0], a[1]);
            case "lay": return model.lay(a[0], a[1]);
            case "at": return model.at(a[0]);
            case "pourer": return model.pourer(a[0], a[1]);
            case "feed": return model.feed(a[0]);
            case "text": return model.text();
            case "force": return model.force(a[0]);
            case "cup": return model.cup(a[0], a[1]);
            case "all": return model.all(a[0]);
            case "mean": return model.mean(a[0], a[1]);
            case "evenest": return model.evenest(a[0]);
            case "become": return model.become();
            case "fewest": return model.fewest(a[0]);
            case "next": return model.next(a[0]);
            case "poured": return model.poured(a[0], a[1]);
            case "follow": return model.follow(a[0]);
            case "which": return model.which(a[0]);
            case "captains": return model.captains(a[0]);
            case "tastes": return model.tastes(a[0], a[1]);
            case "whom": return model.whom(a[0]);
            case "forgotten": return model.forgotten(a[0]);
            case "drawn": return model.drawn(a[0], a[1]);
            case "chance": return model.chance(a[0], a[1], a[2], a[3]);
            case "image": return model.image();
            case "back": return model.back();
            case "count": return model.count(a[0]);
            case "sheet": return model.sheet(a[0], a[1], a[2]);
            case "cell": return model.cell(a[0], a[1], a[2]);
            case "copy": return model.copy(a[0], a[1], a[2], a[3], a[4]);
            case "rows": return model.rows(a[0], a[1], a[2], a[3]);
            default: return model.taken(a[0], a[1]);
        }
    }
}
