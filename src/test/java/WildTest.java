/**
 * Every call with the least and the most ints, and with numbers just within and just beyond what may be, in every
 * combination, on objects that are new, in use and full: none throws, and each answers as Model does.
 */
public final class WildTest {
    private static final int MIN = Integer.MIN_VALUE;
    private static final int MAX = Integer.MAX_VALUE;

    private static final long[] MANY = {MIN, MIN + 1, -256, -3, -2, -1, 0, 1, 2, 3, 4, 5, 6, 7, 8, 9, 10, 19, 20, 21,
        23, 24, 39, 40, 41, 99, 159,
        160, 161, 239, 240, 241, 999, 1000, 65536, MAX - 1, MAX};
    private static final long[] SOME = {MIN, -2, -1, 0, 1, 2, 4, 7, 8, 10, 24, 160, 161, 241, MAX};
    private static final long[] FEW = {MIN, -1, 0, 1, 4, 5, 21, 160, 240, 241, MAX};
    private static final long[] FEWEST = {MIN, -1, 0, 1, 3, 160, MAX};

    /** Each call's name and how many arguments it has. */
    private static final String[] CALLS = {
        "row 3", "set 3", "copy 5", "element 2", "show 2", "holds 1", "says 2", "stuff 3", "stuffOf 2", "cell 2",
            "cellOf 2", "plan 2", "village 1",
        "fault 0", "may 1", "lay 2", "strip 1", "spray 0", "side 1", "hours 1", "fresh 2", "beauty 2", "looks 1",
        "worst 2", "all 2", "best 4",
        "turn 2", "next 0", "done 1", "women 1", "dry 0", "sprayings 1", "was 4", "age 2", "lacking 0", "wrong 0",
        "judge 2", "days 1", "seed 1",
        "act 3", "trace 1", "image 0", "restore 0", "status 1",
    };

    private static final String[][] STATES = {
        {},
        {"stuff 0 1 2", "stuff 5 2 0", "stuff 2 1 9", "cell 20 1", "cell 16 2", "cell 0 1", "lay 20 0", "lay 0 1",
        "plan 16 1", "plan 23 0",
            "side 1", "hours 9", "spray", "image", "stuff 6 1 1", "row 0 2 4", "set 0 0 8", "set 0 1 230",
            "row 1 2 160", "set 1 0 9", "show 2 3",
            "row 3 3 3", "set 3 0 3", "row 4 0 5", "set 4 0 115", "set 4 1 112", "set 4 2 114", "set 4 3 97",
            "set 4 4 121", "row 7 2 0",
            "act 3 2 7"},
        {"stuff 0 0 0", "stuff 1 1 1", "stuff 2 2 2", "stuff 3 3 3", "stuff 4 4 4", "stuff 5 5 5", "stuff 6 6 6",
        "stuff 0 7 9", "lay 0 0", "lay 1 1",
            "lay 2 2", "lay 3 3", "lay 4 4", "lay 5 5", "lay 6 6", "lay 7 7", "lay 8 0", "lay 9 1", "lay 10 2",
            "lay 11 3", "lay 12 4",
            "lay 13 5", "lay 14 6", "lay 15 7", "lay 16 0", "lay 17 1", "lay 18 2", "lay 19 3", "lay 20 4",
            "lay 21 5", "lay 22 6", "lay 23 7",
            "cell 0 0", "cell 23 7", "plan 5 7", "side 2", "hours 240", "seed -1", "image", "row 0 3 160",
            "row 1 1 24", "show 7 7"},
    };
    /** Together with what a state takes, far within the 512 calls that are promised. */
    private static final int CALLS_OF_AN_OBJECT = 60;

    private static PetalPictures program;
    private static Model model;
    private static int calls;
    private static int shown;

    public static void main(String[] args) {
        for (String[] state : STATES) {
            for (String told : CALLS) {
                String[] parts = told.split(" ");
                calls = CALLS_OF_AN_OBJECT;
                fill(state, parts[0], new long[Integer.parseInt(parts[1])], 0);
            }
        }
        Check.end();
    }

    private static long[] wildFor(int arguments) {
        return arguments < 3 ? MANY : arguments == 3 ? SOME : arguments == 4 ? FEW : FEWEST;
    }

    private static void fill(String[] state, String name, long[] args, int from) {
        if (from == args.length) {
            compare(state, name, args);
            return;
        }
        for (long wild : wildFor(args.length)) {
            args[from] = wild;
            fill(state, name, args, from + 1);
        }
    }

    private static void begin(String[] state) {
        program = new PetalPictures();
        model = new Model();
        calls = 0;
        for (String told : state) {
            String[] parts = told.split(" ");
            long[] args = new long[parts.length - 1];
            for (int i = 0; i < args.length; i++) {
                args[i] = Long.parseLong(parts[i + 1]);
            }
            Calls.answer(program, parts[0], args);
            Calls.answer(model, parts[0], args);
        }
    }

    private static void compare(String[] state, String name, long[] args) {
        if (calls >= CALLS_OF_AN_OBJECT) {
            begin(state);
        }
        calls++;
        long got = Calls.answer(program, name, args);
        long want = Calls.answer(model, name, args);
        if (got != want && shown < 20) {
            shown++;
            Check.fail("WildTest: " + Calls.told(name, args) + " answered " + got + ", due is " + want);
        }
        for (int what = 0; calls == CALLS_OF_AN_OBJECT && what < 18; what++) {
            Check.due("status(" + what + ") behind " + name, program.status(what), model.status(what));
        }
    }
}
