/**
 * Promises 41 to 45, a sentence of the document ahead of each test: the edges of acts, the trace, the image and the
 * counts.
 */
public final class EdgesOfActsTest {
    private static final int MIN = Integer.MIN_VALUE;
    private static final int MAX = Integer.MAX_VALUE;

    public static void main(String[] args) {
        petalWraps();
        seedWraps();
        mossWraps();
        lichenWraps();
        blueWraps();
        fineWraps();
        fernWraps();
        firstAndLastStuffAct();
        noSuchActs();
        traceOfNone();
        traceOfTheLatest();
        traceBeyondItsEnd();
        imageOfNothing();
        imageOfAFullBoard();
        imageIsTakenAnew();
        restoreAgainAndAgain();
        restoreLeavesSomeAsTheyAre();
        shelvesWithStuffs();
        statusNumbers();
        refusalsAreCounted();
        Check.end();
    }

    /** A stuff of a kind with the number m and a. */
    private static Run stuff(int kind, int m, int a) {
        Run run = new Run();
        for (int other = 0; other < m; other++) {
            run.and("stuff(3, 0, 0)");
        }
        return run.and("stuff(" + kind + ", 0, " + a + ")");
    }

    private static void act(int kind, int m, int a, int act, int x, int due, int... trace) {
        Run run = stuff(kind, m, a);
        run.due("act(" + m + ", " + act + ", " + x + ")", due);
        run.due("status(7)", trace.length);
        for (int i = 0; i < trace.length; i++) {
            run.due("trace(" + i + ")", trace[i]);
        }
        run.due("trace(" + trace.length + ")", -1);
    }

    /** "with x (wrapping)"; "10 lays: x + m. 11 fades: lays(x) * 2. 12 shows: fades(x) ^ lays(x - k)." */
    private static void petalWraps() {
        act(0, 0, 9, 0, MAX, MAX, 10);
        act(0, 1, 9, 0, MAX, MIN, 10);
        act(0, 7, 9, 0, MAX, MIN + 6, 10);
        act(0, 7, 9, 0, MIN, MIN + 7, 10);
        act(0, 0, 0, 1, 1 << 30, MIN, 11, 10);
        act(0, 0, 0, 1, MAX, -2, 11, 10);
        act(0, 1, 0, 1, MAX, 0, 11, 10);
        act(0, 0, 0, 1, MIN, 0, 11, 10);
        act(0, 7, 0, 1, -7, 0, 11, 10);
        act(0, 0, 9, 2, MIN, MAX - 8, 12, 11, 10, 10);
        act(0, 0, 1, 2, MIN, MAX, 12, 11, 10, 10);
        act(0, 0, 0, 2, MIN, MIN, 12, 11, 10, 10);
        act(0, 0, 9, 2, 0, -9, 12, 11, 10, 10);
        // fades: MAX + 7 is MIN + 6, doubled 12; lays: MAX - 9 + 7 is MAX - 2
        act(0, 7, 9, 2, MAX, 12 ^ MAX - 2, 12, 11, 10, 10);
    }

    /** "20 lays: super.lays(x) + k." */
    private static void seedWraps() {
        act(1, 0, 1, 0, MAX, MIN, 20, 10);
        act(1, 7, 9, 0, MAX, MIN + 15, 20, 10);
        act(1, 0, 0, 0, MAX, MAX, 20, 10);
        act(1, 0, 1, 1, MAX, 0, 11, 20, 10);
        act(1, 7, 9, 1, MAX, 30, 11, 20, 10);
        // fades: (MIN + 16) * 2 is 32; lays: MIN - 9 + 7 + 9
        act(1, 7, 9, 2, MIN, 32 ^ MIN + 7, 12, 11, 20, 10, 20, 10);
    }

    /** "30 fades: super.fades(x) * 3." */
    private static void mossWraps() {
        act(2, 0, 9, 0, MAX, MAX, 10);
        act(2, 0, 9, 1, MAX, -6, 30, 11, 10);
        act(2, 1, 9, 1, MAX, 0, 30, 11, 10);
        // 800000000 doubled is 1600000000, three times 4800000000, less 2 to the 32 is 505032704
        act(2, 0, 9, 1, 800000000, 505032704, 30, 11, 10);
        act(2, 0, 9, 1, -800000000, -505032704, 30, 11, 10);
        act(2, 0, 9, 2, MIN, MAX - 8, 12, 30, 11, 10, 10);
    }

    /** "40 fades: super.fades(x + 1)." */
    private static void lichenWraps() {
        act(3, 0, 0, 1, MAX, 0, 40, 11, 20, 10);
        act(3, 7, 9, 1, MAX, 32, 40, 11, 20, 10);
        act(3, 0, 0, 1, -1, 0, 40, 11, 20, 10);
        act(3, 0, 1, 0, MAX, MIN, 20, 10);
        act(3, 0, 0, 2, MAX, MAX, 12, 40, 11, 20, 10, 20, 10);
        act(3, 0, 9, 2, MIN, 20 ^ MIN, 12, 40, 11, 20, 10, 20, 10);
    }

    /** "50 shows: -super.shows(x). 51 lays: super.lays(x) - m." */
    private static void blueWraps() {
        act(4, 7, 9, 0, MAX, MAX, 51, 10);
        act(4, 7, 9, 0, MIN, MIN, 51, 10);
        act(4, 0, 0, 1, MAX, -2, 11, 51, 10);
        // 0 ^ MIN is MIN, and less than 0 by it is MIN again
        act(4, 0, 0, 2, MIN, MIN, 50, 12, 11, 51, 10, 51, 10);
        act(4, 7, 0, 2, MIN, MIN, 50, 12, 11, 51, 10, 51, 10);
        act(4, 0, 1, 2, MIN, -MAX, 50, 12, 11, 51, 10, 51, 10);
        act(4, 0, 0, 2, 0, 0, 50, 12, 11, 51, 10, 51, 10);
    }

    /** "60 shows: super.shows(x) ^ 5." */
    private static void fineWraps() {
        act(5, 7, 9, 0, MAX, MAX, 51, 10);
        act(5, 0, 0, 2, MIN, MIN + 5, 60, 50, 12, 11, 51, 10, 51, 10);
        act(5, 0, 1, 2, MIN, -MAX ^ 5, 60, 50, 12, 11, 51, 10, 51, 10);
        act(5, 7, 0, 2, 0, 5, 60, 50, 12, 11, 51, 10, 51, 10);
    }

    /** "70 lays: super.lays(x) * 2. 71 fades: super.fades(x - k)." */
    private static void fernWraps() {
        act(6, 0, 0, 0, 1 << 30, MIN, 70, 10);
        act(6, 0, 0, 0, MAX, -2, 70, 10);
        act(6, 1, 0, 0, MAX, 0, 70, 10);
        // MIN - 9 is MAX - 8: doubled by 70, by 11, three times by 30: 12 times -8 - 1
        act(6, 0, 9, 1, MIN, 12 * -9, 71, 30, 11, 70, 10);
        act(6, 7, 0, 1, MAX, 12 * 6, 71, 30, 11, 70, 10);
        act(6, 0, 9, 2, MIN, -108 ^ -18, 12, 71, 30, 11, 70, 10, 70, 10);
    }

    private static void firstAndLastStuffAct() {
        Run run = stuff(0, 7, 0);
        run.dues("act(0, 0, 5) 5", "act(7, 0, 5) 12", "act(8, 0, 5) 0", "act(-1, 0, 5) 0");
    }

    /** act: "0, and no TRACE then: no such STUFF, act." */
    private static void noSuchActs() {
        new Run().dues("act(0, 0, 5) 0", "trace(0) -1", "status(7) 0");
        String[] none = {"act(-1, 0, 5)", "act(2, 0, 5)", "act(8, 0, 5)", "act(MIN, 0, 5)", "act(MAX, 0, 5)",
            "act(0, -1, 5)", "act(0, 3, 5)", "act(0, MIN, 5)", "act(0, MAX, 5)", "act(2, 3, 5)"};
        for (String one : none) {
            Run run = new Run("stuff(0, 0, 0)", "stuff(6, 0, 0)");
            run.dues("act(1, 2, 5) 68", "status(7) 8", "trace(7) 10", one + " 0", "status(7) 0", "trace(0) -1",
                "trace(7) -1");
            run.dues("act(0, 0, 5) 5", "status(7) 1", "trace(0) 10", "trace(1) -1");
            run.refused(0, 0, 0, 0, 0, 0, 0);
        }
    }

    /** trace: "NONE: none such." */
    private static void traceOfNone() {
        new Run().dues("trace(0) -1", "trace(-1) -1", "trace(19) -1", "trace(20) -1", "trace(MIN) -1",
            "trace(MAX) -1", "status(7) 0");
    }

    /** "the bodies that ran in the latest act()": not those of the act ahead. */
    private static void traceOfTheLatest() {
        Run run = new Run("stuff(6, 0, 0)", "stuff(0, 0, 0)", "act(0, 2, 5)");
        run.dues("trace(7) 10", "act(1, 0, 5) 6", "trace(0) 10", "trace(1) -1", "trace(7) -1", "status(7) 1",
            "act(1, 1, 5) 12", "trace(0) 11", "trace(1) 10", "trace(2) -1", "status(7) 2");
    }

    /** "the first 20 are kept"; no act runs as many. */
    private static void traceBeyondItsEnd() {
        Run run = new Run("stuff(6, 0, 0)", "act(0, 2, 5)");
        for (int i = 8; i < 24; i++) {
            run.due("trace(" + i + ")", -1);
        }
        run.dues("trace(-1) -1", "trace(MIN) -1", "trace(MAX) -1", "trace(0) 12", "trace(7) 10");
        run.refused(0, 0, 0, 0, 0, 0, 0);
    }

    /** image, restore: "how many STUFFS. -6 there is none." */
    private static void imageOfNothing() {
        Run run = new Run();
        run.dues("restore() -6", "image() 0", "restore() 0", "stuff(0, 0, 0) 0", "cell(0, 0) 1", "lay(0, 0) 1",
            "plan(0, 0) 1", "side(1) 0", "hours(70) 70", "spray() 10", "seed(5) 1", "restore() 0", "status(0) 0",
            "status(1) 0", "status(2) 60", "status(3) 0", "status(4) 0", "status(5) 0", "status(6) 1",
            "cellOf(0, 0) -1", "cellOf(0, 1) -1", "cellOf(0, 2) -1", "cellOf(0, 3) 0", "cellOf(0, 4) 0",
            "cellOf(0, 5) 0", "stuff(0, 0, 0) 0");
        run.refused(0, 0, 0, 0, 0, 1, 0);
    }

    /** "THE IMAGE of all but SHELVES": every stuff and every cell of a full board. */
    private static void imageOfAFullBoard() {
        Run run = new Run();
        for (int stuff = 0; stuff < 8; stuff++) {
            run.and("stuff(" + stuff % 7 + ", " + stuff + ", " + (stuff + 1) + ")");
        }
        for (int cell = 0; cell < 24; cell++) {
            run.and("cell(" + cell + ", " + (cell + 1) % 8 + ")", "lay(" + cell + ", " + cell % 8 + ")", "plan("
                + cell + ", " + (cell + 2) % 8 + ")");
        }
        run.and("side(1)", "hours(3)", "side(0)", "hours(4)", "spray()").due("image()", 8);
        run.and("spray()", "days(20)", "restore()");
        for (int cell = 0; cell < 24; cell++) {
            boolean sunny = cell % 4 < 2;
            run.due("cellOf(" + cell + ", 0)", (cell + 1) % 8);
            run.due("cellOf(" + cell + ", 1)", cell % 8);
            run.due("cellOf(" + cell + ", 2)", (cell + 2) % 8);
            run.due("cellOf(" + cell + ", 3)", sunny ? 3 : 0);
            run.due("cellOf(" + cell + ", 4)", sunny ? 4 : 7);
            run.due("cellOf(" + cell + ", 5)", 1);
        }
        for (int stuff = 0; stuff < 8; stuff++) {
            run.due("stuffOf(" + stuff + ", 0)", stuff % 7);
            run.due("stuffOf(" + stuff + ", 1)", stuff);
            run.due("stuffOf(" + stuff + ", 2)", stuff + 1);
        }
        run.dues("stuff(0, 0, 0) -7", "status(1) 24", "status(2) 60", "status(3) 0", "status(4) 7", "status(5) 0",
            "status(6) 1");
    }

    private static void imageIsTakenAnew() {
        Run run = new Run("stuff(0, 0, 0)", "image()", "stuff(0, 0, 0)", "lay(0, 1)", "image()", "stuff(0, 0, 0)",
            "strip(0)");
        run.dues("restore() 2", "status(0) 2", "cellOf(0, 1) 1", "hours(9) 9", "image() 2", "hours(9) 18",
            "restore() 2", "status(4) 9", "cellOf(0, 4) 9");
    }

    /** THE IMAGE stays when all is made as it has it, and what is done then does not change it. */
    private static void restoreAgainAndAgain() {
        Run run = new Run("stuff(1, 2, 3)", "cell(0, 1)", "lay(0, 0)", "plan(1, 0)", "hours(1)", "image()");
        for (int i = 0; i < 3; i++) {
            run.and("cell(0, 2)", "strip(0)", "plan(1, -1)", "side(2)", "hours(30)", "spray()", "stuff(0, 0, 0)",
                "days(1)").call("seed(9)");
            run.dues("restore() 1", "status(0) 1", "status(1) 1", "status(2) 59", "status(3) 0", "status(4) 1",
                "status(5) 0", "status(6) 1", "cellOf(0, 0) 1", "cellOf(0, 1) 0", "cellOf(1, 2) 0", "cellOf(0, 4) 1",
                "stuffOf(0, 2) 3", "stuffOf(1, 0) -5");
        }
        run.refused(0, 0, 0, 0, 3, 0, 0);
    }

    /** "(and THE IMAGE, REFUSALS, the FAULT, THE TRACE)" are not in it. */
    private static void restoreLeavesSomeAsTheyAre() {
        Run run = new Run("stuff(0, 0, 0)", "image()", "act(0, 1, 5)").text(0, "sp");
        run.dues("village(0) -6", "village(1) -3", "may(24) -1", "restore() 1", "fault() 2", "trace(0) 11",
            "trace(1) 10", "status(7) 2");
        run.refused(1, 0, 1, 0, 0, 1, 0);
        run.dues("element(0, 0) 115", "element(0, 1) 112", "holds(0) 100", "image() 1", "fault() 2", "trace(0) 11",
            "status(7) 2");
        run.refused(1, 0, 1, 0, 0, 1, 0);
    }

    /** restore: "SHELVES with STUFFS hold those of these numbers, or NOTHING". */
    private static void shelvesWithStuffs() {
        Run run = new Run("stuff(0, 1, 0)", "stuff(0, 2, 0)", "image()", "stuff(0, 3, 0)", "show(0, 0)", "show(1, 1)",
            "show(2, 2)", "show(7, 2)", "row(3, 1, 2)");
        run.dues("restore() 2", "holds(0) 0", "holds(1) 1", "holds(2) -1", "holds(7) -1", "holds(3) 101",
            "holds(4) -1", "says(1, 0) 2", "says(2, 0) -3", "set(2, 0, 1) -3", "stuff(0, 4, 0) 2", "holds(2) -1");
        // numbers of a new object's image are told anew: the shelf holds the one of the image with its number
        Run anew = new Run("image()", "stuff(5, 3, 0)", "show(6, 0)");
        anew.dues("restore() 0", "holds(6) -1", "stuff(1, 4, 0) 0", "holds(6) -1", "show(6, 0) 1", "says(6, 0) 4",
            "says(6, 4) -2");
    }

    /** status: "NONE for another what"; 0 to 7 and 11 to 17. */
    private static void statusNumbers() {
        Run run = new Run("stuff(0, 0, 0)", "stuff(0, 0, 0)", "lay(0, 0)", "side(2)", "hours(40)", "spray()",
            "act(0, 2, 1)");
        run.call("seed(-5)");
        run.dues("status(MIN) -1", "status(-1) -1", "status(0) 2", "status(1) 1", "status(2) 10", "status(3) 2",
            "status(4) 40", "status(5) 11", "status(6) -5", "status(7) 4", "status(8) -1", "status(9) -1",
            "status(10) -1", "status(11) 0", "status(17) 0", "status(18) -1", "status(MAX) -1");
        run.refused(0, 0, 0, 0, 0, 0, 0);
    }

    /** status: "11 to 17: REFUSALS -1 to -7", those told apart with the others. */
    private static void refusalsAreCounted() {
        Run run = new Run("row(0, 0, 1)", "stuff(0, 0, 0)", "show(1, 0)");
        String[] each = {"may(24) -1", "best(24, 0, 0, 0) -11", "set(1, 0, 0) -2", "age(1, 0) -12", "set(2, 0, 0) -3",
            "judge(2, 0) -13", "row(0, 0, -1) -4", "age(0, -1) -14", "set(0, 1, 0) -5", "cellOf(24, 0) -15",
            "side(3) -6", "women(-1) -16", "row(0, 0, 161) -7"};
        int[] counts = new int[7];
        for (String row : each) {
            run.dues(row);
            counts[(Integer.parseInt(row.substring(row.lastIndexOf(' ') + 2)) - 1) % 10]++;
            run.refused(counts);
        }
        for (int i = 1; i <= 200; i++) {
            run.due("side(3)", -6);
        }
        counts[5] += 200;
        run.refused(counts);
    }
}
