import java.util.ArrayList;
import java.util.List;
import java.util.Random;

/**
 * Random runs of calls, wild arguments among them, on the program and on Model: every answer must be the same. No
 * object gets more than the 512 calls that the document promises.
 */
public final class OracleTest {
    private static final int RUNS = 900;
    private static final int MOST_CALLS = 512;
    /** What tellVillage, tellFreshness and compareAll need at most. */
    private static final int CALLS_OF_A_TEXT = 100;
    private static final int CALLS_TO_COMPARE = 340;
    private static final int LOG_SHOWN = 60;

    /** Each call with its arguments' usual ranges, and how often it comes. */
    private static final String[] CALLS_TOLD = {
        "row 2 0:7 0:3 0:160", "set 6 0:7 0:20 -3:250", "copy 4 0:7 0:7 0:9 0:9 0:9", "element 2 0:7 0:12",
        "show 4 0:7 -1:7", "holds 2 0:7", "says 8 0:7 0:6",
        "stuff 3 0:6 0:7 0:9", "stuff 3 0:6 0:2 0:9", "stuffOf 1 0:7 0:2", "cell 4 0:23 -1:7", "cell 8 12:23 0:2",
        "cellOf 2 0:23 0:5", "plan 8 0:23 -1:7", "village 1 0:7", "fault 1", "may 2 0:23", "lay 12 0:23 0:7",
        "lay 12 16:23 0:7", "strip 1 0:23", "spray 3", "side 2 0:2", "hours 2 1:240", "hours 3 1:9",
        "fresh 5 0:23 0:240", "fresh 5 12:23 0:30", "beauty 5 0:23 0:30", "looks 2 0:240", "looks 2 0:20",
        "worst 2 0:120 120:240", "worst 2 0:9 9:40", "all 2 0:120 120:240", "all 2 0:9 9:40",
        "best 4 0:23 0:9 9:60 0:1", "best 2 0:23 0:120 120:240 0:1", "turn 3 0:9 9:40", "turn 1 0:100 100:240",
        "next 3", "done 5 1:6", "women 4 0:999", "women 4 0:80", "dry 2", "sprayings 3 0:240",
        "was 4 0:240 0:240 0:20 0:9", "was 4 0:12 0:12 0:3 0:9", "age 1 0:7 0:24", "lacking 2", "wrong 2",
        "judge 1 0:7 0:40", "days 1 1:20", "seed 1 -2147483648:2147483647", "act 6 0:7 0:2 -99:99",
        "act 2 0:7 0:2 -2147483648:2147483647", "trace 4 0:9", "image 1", "restore 1", "status 3 0:17",
    };

    /** What tells how things stand: asked often, for not all is compared at every step. */
    private static final String[] LOOKS = {
        "status 1 0:17", "cellOf 1 0:23 0:5", "cellOf 1 12:23 1:1", "stuffOf 1 0:7 0:2", "holds 1 0:7", "element 1 0:7 0:12",
        "trace 1 0:9", "fault 1", "looks 1 0:9", "wrong 1", "lacking 1", "next 1",
    };

    private static Random random;
    private static PetalPictures program;
    private static Model model;
    private static int calls;
    private static final List<String> log = new ArrayList<>();
    private static boolean alike;

    public static void main(String[] args) {
        List<String> bag = new ArrayList<>();
        for (String told : CALLS_TOLD) {
            for (int i = Integer.parseInt(told.split(" ")[1]); i > 0; i--) {
                bag.add(told);
            }
        }
        for (int run = 0; run < RUNS; run++) {
            oneRun(run, bag);
        }
        Check.end();
    }

    private static void oneRun(int run, List<String> bag) {
        random = new Random(run);
        program = new PetalPictures();
        model = new Model();
        calls = 0;
        log.clear();
        alike = true;
        // some runs end with a look at everything, the others go on as far as they may
        boolean looksAtAll = run % 3 == 0;
        int last = MOST_CALLS - CALLS_OF_A_TEXT - (looksAtAll ? CALLS_TO_COMPARE : 0);
        while (alike && calls < last) {
            oneStep(bag);
        }
        while (alike && !looksAtAll && calls < MOST_CALLS) {
            callAsTold(bag.get(random.nextInt(bag.size())));
        }
        if (alike && looksAtAll) {
            compareAll();
        }
        if (calls > MOST_CALLS) {
            Check.fail("OracleTest, run " + run + ": " + calls + " calls");
        }
        if (!alike) {
            int from = Math.max(0, log.size() - LOG_SHOWN);
            Check.fail("OracleTest, run " + run + ", .. " + from + " rows .. "
                + String.join("; ", log.subList(from, log.size())));
        }
    }

    private static void oneStep(List<String> bag) {
        int choice = random.nextInt(200);
        if (choice < 4) {
            tellVillage();
        } else if (choice < 8) {
            tellFreshness();
        } else if (choice < 12) {
            tellLayings();
        } else if (choice < 40) {
            callAsTold(LOOKS[random.nextInt(LOOKS.length)]);
        } else {
            callAsTold(bag.get(random.nextInt(bag.size())));
        }
    }

    private static void callAsTold(String told) {
        String[] parts = told.split(" ");
        long[] args = new long[parts.length - 2];
        for (int i = 0; i < args.length; i++) {
            String[] ends = parts[i + 2].split(":");
            args[i] = number(Long.parseLong(ends[0]), Long.parseLong(ends[1]));
        }
        call(parts[0], args);
    }

    private static long number(long least, long most) {
        int choice = random.nextInt(200);
        if (choice < 3) {
            return least - 1;
        } else if (choice < 6) {
            return most + 1;
        } else if (choice == 6) {
            return random.nextLong();
        } else if (choice == 7) {
            return new long[] {Integer.MIN_VALUE, Integer.MAX_VALUE, -1, 0}[random.nextInt(4)];
        } else if (choice < 12) {
            return most;
        } else if (choice < 17) {
            return least;
        }
        return least + (long) (random.nextDouble() * (most - least + 1));
    }

    private static long call(String name, long... args) {
        calls++;
        long got = Calls.answer(program, name, args);
        long want = Calls.answer(model, name, args);
        if (alike) {
            log.add(Calls.told(name, args) + " " + got);
        }
        if (got != want && alike) {
            log.add("(due: " + want + ")");
            alike = false;
        }
        return got;
    }

    private static String item() {
        String number = random.nextInt(6) == 0 ? "0" : "";
        int stuff = random.nextInt(Math.max(1, model.status(0)) + (random.nextInt(12) == 0 ? 1 : 0));
        switch (random.nextInt(9)) {
            case 0: return "stuff " + random.nextInt(7) + " " + random.nextInt(3) + " " + number + random.nextInt(10);
            case 1: return "cell " + random.nextInt(24) + " " + number + random.nextInt(8);
            case 2: return "plan " + random.nextInt(24) + " " + stuff;
            case 3: case 4: case 5: return "lay " + (random.nextInt(8) == 0 ? 0 : 12 + random.nextInt(12)) + " " + stuff;
            case 6: return "side " + number + random.nextInt(3);
            case 7: return "spray";
            default: return "hours " + random.nextInt(random.nextInt(4) == 0 ? 110 : 12);
        }
    }

    private static void tellVillage() {
        StringBuilder text = new StringBuilder(item());
        for (int i = random.nextInt(4); i > 0; i--) {
            text.append(';').append(item());
        }
        String signs = "stuffcellplanlaysidesprayhours  ;;0123456789x";
        for (int i = random.nextInt(3) - 1; i > 0; i--) {
            int place = random.nextInt(text.length());
            char sign = signs.charAt(random.nextInt(signs.length()));
            switch (random.nextInt(4)) {
                case 0: text.setLength(place + 1); break;
                case 1: text.insert(place, sign); break;
                case 2: text.setCharAt(place, sign); break;
                default: text.deleteCharAt(place); text.append(' ').deleteCharAt(text.length() - 1); break;
            }
            if (text.length() == 0) {
                text.append('s');
            }
        }
        int s = random.nextInt(8);
        int sort = random.nextInt(4);
        call("row", s, sort, text.length());
        for (int i = 0; i < text.length(); i++) {
            call("set", s, i, text.charAt(i) + (sort == 3 ? (long) random.nextInt() << 32 : 0));
        }
        log.add("village of " + text);
        call("village", s);
        call("fault");
    }

    private static void tellFreshness() {
        int s = random.nextInt(8);
        int n = model.status(1);
        int hour = random.nextInt(random.nextBoolean() ? 241 : 20);
        call("row", s, random.nextInt(4), n + random.nextInt(2));
        int i = 0;
        for (int c = 0; c < 24; c++) {
            if (model.cellOf(c, 1) != -1) {
                call("set", s, i, model.fresh(c, hour) + (random.nextInt(150) == 0 ? 1 : 0));
                i++;
            }
        }
        call("age", s, n);
    }

    private static void tellLayings() {
        int s = random.nextInt(8);
        int n = random.nextInt(9);
        call("row", s, 1 + random.nextInt(3), n);
        for (int i = 0; i < n; i++) {
            int cell = random.nextInt(i < 3 ? 24 : 25);
            for (int tries = 0; tries < 20 && cell < 24 && model.may(cell) != 1; tries++) {
                cell = random.nextInt(24);
            }
            call("set", s, i, cell * 10 + random.nextInt(Math.max(1, model.status(0))));
        }
        call("judge", s, n);
    }

    /** All that can be asked without changing anything. */
    private static void compareAll() {
        for (int what = -1; what < 19; what++) {
            call("status", what);
        }
        for (int c = 0; c < 24; c++) {
            for (int what = 0; what < 6; what++) {
                call("cellOf", c, what);
            }
        }
        for (int stuff = 0; stuff < model.status(0); stuff++) {
            for (int what = 0; what < 3; what++) {
                call("stuffOf", stuff, what);
            }
        }
        for (int s = 0; s < 8; s++) {
            call("holds", s);
            for (int i = 0; i < 12; i++) {
                call("element", s, i);
            }
        }
        for (int i = -1; i < 22; i++) {
            call("trace", i);
        }
        call("fault");
    }
}
