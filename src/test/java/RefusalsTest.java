import java.util.ArrayList;
import java.util.List;

/**
 * REFUSALS: each refusal of each call, the first that fits where several do, and that nothing changes but how many
 * there were; likewise that what is done in thought changes nothing, and which calls refuse nothing.
 */
public final class RefusalsTest {
    /** Shelves: 0, 1, 2, 3 and 6 have rows of 3, 0, 4, 2 and 160; 4 and 7 have stuffs 5 and 0; 5 holds nothing. */
    private static final String[] RICH = {
        "stuff(0, 1, 2)", "stuff(1, 2, 3)", "stuff(2, 3, 4)", "stuff(5, 1, 9)", "stuff(3, 7, 0)",
        "cell(20, 1)", "cell(21, 2)", "cell(16, 3)", "cell(17, 0)", "cell(12, 1)", "cell(3, 7)",
        "lay(20, 0)", "lay(22, 1)", "lay(3, 4)", "plan(16, 2)", "plan(20, 3)", "plan(0, 1)",
        "side(1)", "hours(5)", "spray()", "image()",
        "stuff(6, 0, 1)", "hours(2)", "side(2)", "lay(21, 3)", "plan(17, 0)", "cell(2, 5)", "seed(99)",
        "row(0, 0, 3)", "set(0, 0, 7)", "set(0, 1, -7)", "row(1, 2, 0)",
        "row(2, 1, 4)", "set(2, 0, 115)", "set(2, 1, 112)", "set(2, 3, 300)", "row(3, 3, 2)", "set(3, 0, MIN)",
        "row(6, 2, 160)", "set(6, 159, 5)", "show(4, 5)", "show(7, 0)", "act(5, 2, 77)",
    };
    /** The text in shelf 2 has a fault at its place 2. */
    private static final String FAULTY = "village(2)";

    /** Of every call that is refused behind RICH: the call and its refusal. */
    private static final String[] REFUSED = {
        "row(-1, 0, 0) -1", "row(8, 0, 0) -1", "row(MIN, 0, 0) -1", "row(MAX, 0, 0) -1",
        "row(0, 0, -1) -4", "row(0, 0, MIN) -4", "row(0, -1, 0) -6", "row(0, 4, 0) -6", "row(0, MIN, 0) -6",
        "row(0, MAX, 0) -6", "row(0, 0, 161) -7", "row(4, 3, 161) -7", "row(0, 0, MAX) -7",
        "set(-1, 0, 1) -1", "set(8, 0, 1) -1", "set(MIN, 0, 1) -1", "set(MAX, 0, 1) -1", "set(4, 0, 1) -2",
        "set(7, 0, 1) -2", "set(5, 0, 1) -3", "set(0, -1, 1) -5", "set(0, 3, 1) -5", "set(1, 0, 1) -5",
        "set(6, 160, 1) -5", "set(6, MIN, 1) -5", "set(6, MAX, 1) -5",
        "copy(-1, 0, 0, 0, 1) -1", "copy(8, 0, 0, 0, 1) -1", "copy(0, -1, 0, 0, 1) -1", "copy(0, 8, 0, 0, 1) -1",
        "copy(MIN, MAX, 0, 0, 1) -1", "copy(4, 0, 0, 0, 1) -2", "copy(0, 4, 0, 0, 1) -2", "copy(4, 7, 0, 0, 0) -2",
        "copy(0, 2, 0, 0, 1) -2", "copy(2, 3, 0, 0, 1) -2", "copy(3, 6, 0, 0, 1) -2", "copy(6, 0, 0, 0, 0) -2",
        "copy(5, 0, 0, 0, 1) -3", "copy(0, 5, 0, 0, 1) -3", "copy(5, 5, 0, 0, 0) -3",
        "copy(0, 0, 0, 0, -1) -4", "copy(6, 1, 0, 0, MIN) -4",
        "copy(0, 0, -1, 0, 1) -5", "copy(0, 0, 0, -1, 1) -5", "copy(0, 0, 1, 0, 3) -5", "copy(0, 0, 0, 1, 3) -5",
        "copy(0, 0, 4, 0, 0) -5", "copy(0, 0, 0, 4, 0) -5", "copy(0, 0, 0, 0, 4) -5", "copy(6, 6, 0, 0, 161) -5",
        "copy(6, 1, 0, 0, 1) -5", "copy(1, 6, 0, 0, 1) -5", "copy(6, 6, 1, 1, MAX) -5", "copy(6, 6, MAX, 0, 1) -5",
        "copy(6, 6, 0, MAX, 1) -5", "copy(6, 6, MAX, MAX, MAX) -5", "copy(6, 6, MIN, MIN, 0) -5",
        "show(-1, 0) -1", "show(8, 0) -1", "show(8, -1) -1", "show(-1, -1) -1", "show(0, 6) -1", "show(0, -2) -1",
        "show(0, MAX) -1", "show(0, MIN) -1", "show(4, 6) -1",
        "says(-1, 0) -1", "says(8, 0) -1", "says(4, -1) -1", "says(4, 7) -1", "says(4, MIN) -1", "says(4, MAX) -1",
        "says(0, 0) -2", "says(1, 0) -2", "says(4, 1) -2", "says(4, 3) -2", "says(4, 4) -2", "says(4, 5) -2",
        "says(7, 1) -2", "says(7, 2) -2", "says(7, 6) -2", "says(5, 0) -3",
        "stuff(-1, 0, 0) -1", "stuff(7, 0, 0) -1", "stuff(MIN, 0, 0) -1", "stuff(MAX, 0, 0) -1", "stuff(0, -1, 0) -6",
        "stuff(0, 8, 0) -6", "stuff(0, MIN, 0) -6", "stuff(0, MAX, 0) -6", "stuff(0, 0, -1) -6", "stuff(0, 0, 10) -6",
        "stuff(0, 0, MIN) -6", "stuff(0, 0, MAX) -6",
        "stuffOf(-1, 0) -5", "stuffOf(6, 0) -5", "stuffOf(0, -1) -5", "stuffOf(0, 3) -5", "stuffOf(6, 3) -5",
        "stuffOf(MIN, 0) -5", "stuffOf(MAX, 0) -5", "stuffOf(0, MIN) -5", "stuffOf(0, MAX) -5",
        "cell(-1, 0) -1", "cell(24, 0) -1", "cell(MIN, 0) -1", "cell(MAX, -1) -1", "cell(20, -2) -6",
        "cell(20, 8) -6",
        "cell(20, MIN) -6", "cell(20, MAX) -6",
        "cellOf(-1, 0) -15", "cellOf(24, 0) -15", "cellOf(20, -1) -15", "cellOf(20, 6) -15", "cellOf(24, 6) -15",
        "cellOf(MIN, 0) -15", "cellOf(MAX, 0) -15", "cellOf(20, MIN) -15", "cellOf(20, MAX) -15",
        "plan(-1, 0) -1", "plan(24, 0) -1", "plan(24, -1) -1", "plan(16, -2) -1", "plan(16, 6) -1", "plan(24, 6) -1",
        "plan(MIN, 0) -1", "plan(MAX, 0) -1", "plan(16, MIN) -1", "plan(16, MAX) -1",
        "village(-1) -1", "village(8) -1", "village(MIN) -1", "village(MAX) -1", "village(4) -2", "village(7) -2",
        "village(5) -3", "village(2) -6",
        "may(-1) -1", "may(24) -1", "may(MIN) -1", "may(MAX) -1",
        "lay(-1, 0) -1", "lay(24, 0) -1", "lay(MIN, 0) -1", "lay(MAX, 0) -1", "lay(16, -1) -1", "lay(16, 6) -1",
        "lay(16, MIN) -1", "lay(16, MAX) -1", "lay(20, 0) -6", "lay(12, 0) -6",
        "strip(-1) -1", "strip(24) -1", "strip(MIN) -1", "strip(MAX) -1", "strip(0) -6", "strip(16) -6",
        "side(-1) -6", "side(3) -6", "side(MIN) -6", "side(MAX) -6",
        "hours(0) -6", "hours(-1) -6", "hours(241) -6", "hours(MIN) -6", "hours(MAX) -6",
        "fresh(-1, 0) -1", "fresh(24, 0) -1", "fresh(MIN, 0) -1", "fresh(MAX, 0) -1", "fresh(20, -1) -6",
        "fresh(20, 241) -6", "fresh(20, MIN) -6", "fresh(20, MAX) -6", "fresh(0, 241) -6", "fresh(0, -1) -6",
        "beauty(-1, 0) -1", "beauty(24, 0) -1", "beauty(MIN, 0) -1", "beauty(MAX, 0) -1", "beauty(20, -1) -6",
        "beauty(20, 241) -6", "beauty(20, MIN) -6", "beauty(20, MAX) -6", "beauty(0, 241) -6", "beauty(0, -1) -6",
        "looks(-1) -6", "looks(241) -6", "looks(MIN) -6", "looks(MAX) -6",
        "worst(-1, 0) -6", "worst(0, 241) -6", "worst(1, 0) -6", "worst(240, 239) -6", "worst(241, 241) -6",
        "worst(-1, -1) -6", "worst(MIN, MAX) -6", "worst(MAX, MIN) -6", "worst(0, MIN) -6", "worst(MAX, 240) -6",
        "all(-1, 0) -6", "all(0, 241) -6", "all(1, 0) -6", "all(240, 239) -6", "all(241, 241) -6",
        "all(-1, -1) -6", "all(MIN, MAX) -6", "all(MAX, MIN) -6", "all(0, MIN) -6", "all(MAX, 240) -6",
        "best(-1, 0, 0, 0) -11", "best(24, 0, 0, 0) -11", "best(MIN, 0, 0, 0) -11", "best(MAX, 0, 0, 0) -11",
        "best(20, 0, 0, -1) -15", "best(20, 0, 0, 2) -15", "best(20, 0, 0, MIN) -15", "best(20, 0, 0, MAX) -15",
        "best(20, -1, 0, 0) -16", "best(20, 0, 241, 1) -16", "best(20, 1, 0, 0) -16", "best(20, 240, 239, 1) -16",
        "best(20, 241, 241, 0) -16", "best(0, 1, 0, 0) -16", "best(20, MIN, 0, 0) -16", "best(20, 0, MAX, 0) -16",
        "turn(-1, 0) -6", "turn(0, 241) -6", "turn(1, 0) -6", "turn(240, 239) -6", "turn(241, 241) -6",
        "turn(-1, -1) -6", "turn(MIN, MAX) -6", "turn(MAX, MIN) -6", "turn(0, MIN) -6", "turn(MAX, 240) -6",
        "done(0) -6", "done(7) -6", "done(-1) -6", "done(MIN) -6", "done(MAX) -6",
        "women(-1) -16", "women(1000) -16", "women(MIN) -16", "women(MAX) -16",
        "sprayings(-1) -6", "sprayings(241) -6", "sprayings(MIN) -6", "sprayings(MAX) -6",
        "was(-1, 0, 0, 0) -6", "was(241, 0, 0, 0) -6", "was(0, -1, 0, 0) -6", "was(0, 241, 0, 0) -6",
        "was(0, 0, -1, 0) -6", "was(0, 0, 21, 0) -6", "was(0, 0, 0, -1) -6", "was(0, 0, 0, 10) -6",
        "was(MIN, 0, 0, 0) -6", "was(0, MAX, 0, 0) -6", "was(0, 0, MIN, 0) -6", "was(0, 0, 0, MAX) -6",
        "was(MAX, MIN, 0, 0) -6",
        "age(-1, 4) -11", "age(8, 4) -11", "age(MIN, 4) -11", "age(MAX, 4) -11", "age(4, 4) -12", "age(5, 4) -13",
        "age(6, -1) -14", "age(6, MIN) -14", "age(0, 4) -15", "age(1, 4) -15", "age(6, 161) -15", "age(6, MAX) -15",
        "age(6, 3) -16", "age(6, 5) -16", "age(1, 0) -16", "age(6, 160) -16",
        "judge(-1, 0) -11", "judge(8, 0) -11", "judge(MIN, 0) -11", "judge(MAX, 0) -11", "judge(4, 0) -12",
        "judge(5, 0) -13", "judge(6, -1) -14", "judge(6, MIN) -14", "judge(0, 4) -15", "judge(1, 1) -15",
        "judge(6, 161) -15", "judge(6, MAX) -15", "judge(6, 41) -16", "judge(6, 160) -16",
        "days(0) -6", "days(-1) -6", "days(21) -6", "days(MIN) -6", "days(MAX) -6",
    };

    /** Where several refusals fit, the first of them is answered: a call for each two of them, and one for all. */
    private static final String[] FIRST_THAT_FITS = {
        "row(8, 0, -1) -1", "row(8, 4, 0) -1", "row(8, 0, 161) -1", "row(0, 4, -1) -4", "row(0, -1, MIN) -4",
        "row(0, 4, 161) -6", "row(0, -1, MAX) -6", "row(8, 4, -1) -1", "row(-1, 4, 161) -1",
        "set(8, -1, 1) -1", "set(4, -1, 1) -2", "set(5, -1, 1) -3", "set(5, MAX, 1) -3",
        "copy(8, 4, 0, 0, 1) -1", "copy(4, 8, 0, 0, 1) -1", "copy(-1, 5, 0, 0, 1) -1", "copy(5, -1, 0, 0, 1) -1",
        "copy(8, 0, 0, 0, -1) -1", "copy(0, 8, -1, 9, 1) -1", "copy(8, 4, -1, -1, -1) -1",
        "copy(4, 5, 0, 0, 1) -2", "copy(5, 4, 0, 0, 1) -2", "copy(4, 0, 0, 0, -1) -2", "copy(0, 4, 0, 0, -1) -2",
        "copy(0, 2, 0, 0, -1) -2", "copy(0, 4, -1, 0, 1) -2", "copy(2, 0, 9, 9, 9) -2", "copy(4, 5, -1, -1, -1) -2",
        "copy(5, 0, 0, 0, -1) -3", "copy(0, 5, 0, 0, -1) -3", "copy(5, 0, -1, 0, 1) -3", "copy(0, 5, 9, 9, 9) -3",
        "copy(5, 5, -1, -1, -1) -3", "copy(0, 0, -1, 0, -1) -4", "copy(0, 0, 0, 9, -1) -4",
        "says(8, 7) -1", "says(0, 7) -1", "says(0, -1) -1", "says(5, 7) -1",
        "stuff(7, 8, 0) -1", "stuff(-1, 0, 10) -1", "cell(24, 8) -1", "cell(-1, -2) -1",
        "lay(24, 6) -1", "lay(20, 6) -1", "lay(12, -1) -1", "fresh(24, 241) -1", "fresh(-1, -1) -1",
        "beauty(24, 241) -1", "beauty(-1, -1) -1",
        "best(24, 0, 0, 2) -11", "best(24, 1, 0, 0) -11", "best(24, 1, 0, 2) -11", "best(20, 1, 0, 2) -15",
        "best(20, 0, 241, -1) -15",
        "age(8, -1) -11", "age(8, 9) -11", "age(4, -1) -12", "age(4, 5) -12", "age(5, -1) -13", "age(5, 5) -13",
        "age(0, -1) -14", "age(0, 5) -15", "age(2, 5) -15", "age(1, 1) -15",
        "judge(8, -1) -11", "judge(8, 41) -11", "judge(4, -1) -12", "judge(4, 41) -12", "judge(5, -1) -13",
        "judge(5, 41) -13", "judge(0, -1) -14", "judge(0, 41) -15",
    };

    /** What is told in thought behind RICH. */
    private static final String[] THOUGHTS = {
        "fresh(20, 240)", "beauty(20, 9)", "looks(240)", "worst(0, 240)", "all(0, 240)", "best(20, 0, 240, 0)",
        "best(20, 0, 240, 1)", "turn(0, 240)", "next()", "done(1)", "done(6)", "women(0)", "women(999)", "dry()",
        "sprayings(240)", "was(240, 240, 20, 9)", "age(6, 4)", "lacking()", "wrong()", "judge(6, 40)", "judge(6, 0)",
        "may(16)", "says(4, 6)", "says(4, 2)", "says(7, 0)", "stuffOf(5, 2)", "cellOf(20, 5)", "holds(0)",
        "element(6, 159)", "fault()", "trace(0)", "status(17)",
    };

    /** Wild arguments of calls that refuse nothing; what they change does not show in Run.all(). */
    private static final String[] NEVER_REFUSED = {
        "element(-1, 0)", "element(8, 0)", "element(0, 3)", "element(0, -1)", "element(4, 0)", "element(5, 0)",
        "element(MIN, MAX)", "holds(-1)", "holds(8)", "holds(MIN)", "holds(MAX)", "trace(-1)", "trace(20)",
        "trace(MIN)", "trace(MAX)", "status(-1)", "status(8)", "status(10)", "status(18)", "status(MIN)",
        "status(MAX)", "fault()", "next()", "dry()", "lacking()", "wrong()",
    };

    public static void main(String[] args) {
        List<String> rows = new ArrayList<>(List.of(REFUSED));
        rows.addAll(List.of(FIRST_THAT_FITS));
        String before = rich().all();
        for (String row : rows) {
            refused(row, before);
        }
        manyAtOnce(rows, before);
        thoughts(before);
        neverRefused(before);
        noRoom();
        noImage();
        aFaultShowsButChangesNothing();
        noSuchActForgetsTheTrace();
        Check.end();
    }

    private static Run rich() {
        Run run = new Run(RICH);
        run.due(FAULTY, -6);
        return run;
    }

    /** The place of the count of a refusal, told apart or not, among status(11) to status(17). */
    private static int placeOf(long refusal) {
        return (int) (refusal < -10 ? -11 - refusal : -1 - refusal);
    }

    private static int[] counts(long... refusals) {
        int[] counts = new int[7];
        for (long refusal : refusals) {
            counts[placeOf(refusal)]++;
        }
        return counts;
    }

    private static void unchanged(String told, Run run, String before) {
        if (!run.all().equals(before)) {
            Check.fail("not all is as it was behind " + told);
        }
    }

    private static void refused(String row, String before) {
        int end = row.lastIndexOf(' ');
        String told = row.substring(0, end);
        long refusal = Long.parseLong(row.substring(end + 1));
        Run run = rich();
        run.due(told, refusal);
        run.refused(counts(-6, refusal));
        unchanged(told, run, before);
    }

    /** As many refused calls as one object can take, one behind another. */
    private static void manyAtOnce(List<String> rows, String before) {
        for (int from = 0; from < rows.size(); from += 100) {
            Run run = rich();
            int[] counts = counts(-6);
            for (String row : rows.subList(from, Math.min(rows.size(), from + 100))) {
                run.dues(row);
                counts[placeOf(Long.parseLong(row.substring(row.lastIndexOf(' ') + 1)))]++;
            }
            run.refused(counts);
            unchanged("rows from " + from, run, before);
        }
    }

    /** "in thought: ..; nothing is changed", and what only tells. */
    private static void thoughts(String before) {
        for (String told : THOUGHTS) {
            Run run = rich();
            run.call(told);
            run.refused(counts(-6));
            unchanged(told, run, before);
        }
    }

    private static void neverRefused(String before) {
        Run run = rich();
        for (String told : NEVER_REFUSED) {
            run.call(told);
        }
        run.refused(counts(-6));
        unchanged("what refuses nothing", run, before);
        Run wild = new Run("stuff(0, 0, 0)");
        for (String told : new String[] {"seed(MIN)", "seed(MAX)", "seed(0)", "act(-1, 0, 0)", "act(1, 0, 0)",
            "act(0, 3, 0)", "act(0, -1, 0)", "act(0, 2, MIN)", "act(MAX, MIN, MAX)", "spray()", "image()",
            "restore()"}) {
            wild.call(told);
        }
        wild.refused(0, 0, 0, 0, 0, 0, 0);
    }

    /** stuff: -1 KIND; -6; -7. The eight that there are stay. */
    private static void noRoom() {
        String[] given = new String[9];
        for (int i = 0; i < 8; i++) {
            given[i] = "stuff(" + i % 7 + ", " + i + ", " + i + ")";
        }
        given[8] = "lay(23, 7)";
        String before = new Run(given).all();
        String[] rows = {"stuff(0, 0, 0) -7", "stuff(6, 7, 9) -7", "stuff(0, 8, 0) -6", "stuff(0, 0, 10) -6",
            "stuff(7, 0, 0) -1", "stuff(7, 8, 10) -1"};
        for (String row : rows) {
            Run run = new Run(given);
            run.dues(row);
            run.refused(counts(Long.parseLong(row.substring(row.lastIndexOf(' ') + 1))));
            unchanged(row, run, before);
        }
    }

    /** restore: -6 there is none. */
    private static void noImage() {
        String[] given = {"stuff(0, 1, 2)", "lay(5, 0)", "show(0, 0)", "side(1)", "hours(3)", "act(0, 2, 5)"};
        Run run = new Run(given);
        run.dues("restore() -6", "restore() -6");
        run.refused(0, 0, 0, 0, 0, 2, 0);
        unchanged("restore() without an image", run, new Run(given).all());
    }

    /** village: -6 a FAULT: the FAULT is told, but all else is as it was. */
    private static void aFaultShowsButChangesNothing() {
        String[] texts = {"stuff 0 0 0;", "cell 0 0;cell 1 1;x", "plan 23 5;plan 24 0", "lay 23 0;lay 23 0",
            "side 1;side 3",
            "spray;spray;spra", "hours 99;hours 0", ""};
        int[] faults = {12, 18, 15, 13, 12, 16, 15, 0};
        for (int i = 0; i < texts.length; i++) {
            Run run = rich().text(5, texts[i]);
            run.dues("village(5) -6", "fault() " + faults[i]);
            run.refused(counts(-6, -6));
            run.and("show(5, -1)");
            run.due(FAULTY, -6);
            unchanged("village of \"" + texts[i] + "\"", run, rich().all());
        }
    }

    /** act: 0, and no TRACE then: no such STUFF, act. */
    private static void noSuchActForgetsTheTrace() {
        String[] none = {"act(-1, 0, 5)", "act(6, 0, 5)", "act(MIN, 2, 5)", "act(MAX, 2, 5)", "act(0, -1, 5)",
            "act(0, 3, 5)", "act(0, MIN, 5)", "act(0, MAX, 5)", "act(6, 3, 5)"};
        for (String told : none) {
            Run run = rich();
            run.dues("trace(0) 12", "status(7) 8", told + " 0", "trace(0) -1", "trace(7) -1", "status(7) 0");
            run.refused(counts(-6));
            run.call("act(5, 2, 77)");
            unchanged(told, run, rich().all());
        }
    }
}
