/** Promises 1 to 8, a sentence of the document ahead of each test: the edges of rows and shelves. */
public final class EdgesOfShelvesTest {
    public static void main(String[] args) {
        newObject();
        newObjectAnswers();
        shelvesAre0To7();
        rowsHave0To160Elements();
        sortsAre0To3();
        aNewRowHasZeros();
        setIsWithinTheRow();
        bytesKeepTheirLowestBits();
        shortsKeepTheirLowestBits();
        intsKeepTheirLowestBits();
        longsKeepAll();
        copyOfSomeOfThem();
        copyUpToTheEnds();
        copyOfNone();
        copyAsTheyWereAhead();
        copyOfFullRows();
        copyOfEmptyRows();
        copyOfTwoSorts();
        elementOrZero();
        showOfTheFirstAndLastStuff();
        holdsTellsSorts();
        saysOfNoneAndAll();
        saysFreshness();
        saysOfEachKind();
        Check.end();
    }

    /** "No STUFFS, a BARE board without a drawing"; "NOTHING (at first)"; "60 at first"; "1 at first". */
    private static void newObject() {
        Run run = new Run();
        run.dues("status(0) 0", "status(1) 0", "status(2) 60", "status(3) 0", "status(4) 0", "status(5) 0",
            "status(6) 1", "status(7) 0", "fault() -1", "trace(0) -1", "stuffOf(0, 0) -5", "restore() -6");
        run.refused(0, 0, 0, 0, 1, 1, 0);
        for (int cell = 0; cell < 24; cell++) {
            for (int what = 0; what < 6; what++) {
                run.due("cellOf(" + cell + ", " + what + ")", what < 3 ? -1 : 0);
            }
        }
        for (int s = 0; s < 8; s++) {
            run.dues("holds(" + s + ") -1", "element(" + s + ", 0) 0");
        }
    }

    /** What an empty board answers. */
    private static void newObjectAnswers() {
        Run run = new Run();
        run.dues("fresh(0, 0) 0", "fresh(23, 240) 0", "beauty(0, 0) 0", "beauty(23, 240) 0", "looks(0) 0",
            "looks(240) 0", "worst(0, 240) 0", "worst(240, 240) 240", "all(0, 240) 0", "best(0, 0, 240, 0) -1",
            "best(23, 0, 240, 1) -1", "turn(0, 240) 0", "next() -1", "done(1) 0", "done(6) 0", "women(0) 1",
            "women(999) 1", "dry() 60", "sprayings(0) 0", "sprayings(59) 0", "sprayings(60) 1", "was(0, 0, 0, 9) 0",
            "was(240, 240, 20, 0) 0", "lacking() 0", "wrong() 0", "act(0, 0, 0) 0", "strip(0) -6", "image() 0",
            "restore() 0");
        run.and("row(0, 0, 0)").dues("age(0, 0) 0", "judge(0, 0) -1", "village(0) -6", "fault() 0");
    }

    /** "SHELVES 0 to 7". */
    private static void shelvesAre0To7() {
        Run run = new Run("stuff(0, 0, 0)");
        run.dues("row(0, 0, 1) 1", "row(7, 0, 1) 1", "row(-1, 0, 1) -1", "row(8, 0, 1) -1", "set(0, 0, 5) 1",
            "set(7, 0, 6) 1", "set(-1, 0, 1) -1", "set(8, 0, 1) -1", "element(0, 0) 5", "element(7, 0) 6",
            "element(-1, 0) 0", "element(8, 0) 0", "copy(0, 7, 0, 0, 1) 1", "element(7, 0) 5",
            "copy(7, 0, 0, 0, 1) 1", "copy(-1, 0, 0, 0, 1) -1", "copy(8, 0, 0, 0, 1) -1", "copy(0, -1, 0, 0, 1) -1",
            "copy(0, 8, 0, 0, 1) -1", "village(-1) -1", "village(8) -1", "village(0) -6", "village(7) -6",
            "age(-1, 0) -11", "age(8, 0) -11", "age(0, 0) 0", "age(7, 0) 0", "judge(-1, 0) -11", "judge(8, 0) -11",
            "judge(0, 0) -1", "judge(7, 0) -1", "show(0, 0) 1", "show(7, 0) 1", "show(-1, 0) -1", "show(8, 0) -1",
            "holds(0) 0", "holds(7) 0", "holds(-1) -1", "holds(8) -1", "says(0, 0) 0", "says(7, 0) 0",
            "says(-1, 0) -1", "says(8, 0) -1", "row(MIN, 0, 1) -1", "row(MAX, 0, 1) -1", "element(MIN, 0) 0",
            "element(MAX, 0) 0", "holds(MIN) -1", "holds(MAX) -1");
        run.refused(20, 0, 0, 0, 0, 2, 0);
    }

    /** "0 to 160 elements"; row: "-4; .. -7 n above 160". */
    private static void rowsHave0To160Elements() {
        Run run = new Run();
        run.dues("row(0, 0, -1) -4", "holds(0) -1", "row(0, 0, 0) 1", "holds(0) 100", "set(0, 0, 1) -5",
            "row(0, 0, 1) 1", "set(0, 0, 1) 1", "set(0, 1, 1) -5", "row(0, 0, 159) 1", "set(0, 158, 1) 1",
            "set(0, 159, 1) -5", "row(0, 0, 160) 1", "set(0, 159, 1) 1", "set(0, 160, 1) -5", "row(0, 0, 161) -7",
            "element(0, 159) 1", "row(0, 0, MAX) -7", "row(0, 0, MIN) -4", "set(0, 159, 2) 1");
        run.refused(0, 0, 0, 2, 4, 0, 2);
    }

    /** "a SORT (0 bytes, 1 shorts, 2 ints, 3 longs)"; row: "-6 SORT". */
    private static void sortsAre0To3() {
        Run run = new Run();
        run.dues("row(0, -1, 1) -6", "holds(0) -1", "row(0, 0, 1) 1", "holds(0) 100", "row(0, 1, 1) 1",
            "holds(0) 101", "row(0, 2, 1) 1", "holds(0) 102", "row(0, 3, 1) 1", "holds(0) 103", "row(0, 4, 1) -6",
            "holds(0) 103", "row(0, MIN, 1) -6", "row(0, MAX, 1) -6", "holds(0) 103");
        run.refused(0, 0, 0, 0, 0, 4, 0);
    }

    /** "SHELF s holds a new ROW"; "elements, 0 at first". */
    private static void aNewRowHasZeros() {
        Run run = new Run("stuff(0, 0, 0)").numbers(0, 3, 1, 2, 3);
        run.and("row(0, 3, 3)").dues("element(0, 0) 0", "element(0, 1) 0", "element(0, 2) 0");
        run.numbers(0, 2, 7, 8, 9).and("row(0, 2, 1)", "row(0, 2, 3)");
        run.dues("element(0, 0) 0", "element(0, 1) 0", "element(0, 2) 0");
        run.numbers(0, 1, 7, 8, 9).and("show(0, 0)", "row(0, 1, 3)");
        run.dues("holds(0) 101", "element(0, 0) 0", "element(0, 1) 0", "element(0, 2) 0");
        run.numbers(0, 0, 7, 8, 9).and("show(0, -1)", "row(0, 0, 160)");
        run.dues("holds(0) 100", "element(0, 0) 0", "element(0, 2) 0", "element(0, 159) 0");
        run.and("set(0, 159, 5)", "row(0, 0, 0)", "row(0, 0, 160)").dues("element(0, 159) 0");
    }

    /** set: "Element i of the ROW becomes v: 1. .. -5." */
    private static void setIsWithinTheRow() {
        Run run = new Run("row(2, 2, 3)");
        run.dues("set(2, -1, 9) -5", "set(2, 0, 9) 1", "set(2, 2, 8) 1", "set(2, 3, 7) -5", "set(2, MIN, 9) -5",
            "set(2, MAX, 9) -5", "element(2, 0) 9", "element(2, 1) 0", "element(2, 2) 8", "element(2, 3) 0");
        run.and("row(2, 2, 0)").dues("set(2, 0, 9) -5", "set(2, -1, 9) -5", "element(2, 0) 0");
        run.refused(0, 0, 0, 0, 6, 0, 0);
    }

    /** "what is put in keeps its lowest bits" */
    private static void bytesKeepTheirLowestBits() {
        kept(0, 127, 127, 128, -128, 255, -1, 256, 0, -128, -128, -129, 127, -256, 0, Long.MAX_VALUE, -1,
            Long.MIN_VALUE, 0,
            0x1FFL, -1, 0x17FL, 127);
    }

    private static void shortsKeepTheirLowestBits() {
        kept(1, 32767, 32767, 32768, -32768, 65535, -1, 65536, 0, -32768, -32768, -32769, 32767, Long.MAX_VALUE, -1,
            Long.MIN_VALUE, 0, 255, 255, 256, 256);
    }

    private static void intsKeepTheirLowestBits() {
        long most = Integer.MAX_VALUE;
        long least = Integer.MIN_VALUE;
        kept(2, most, most, most + 1, least, least, least, least - 1, most, 1L << 32, 0, (1L << 32) - 1, -1,
            Long.MAX_VALUE, -1, Long.MIN_VALUE, 0, 65536, 65536);
    }

    private static void longsKeepAll() {
        long most = Integer.MAX_VALUE;
        kept(3, Long.MAX_VALUE, Long.MAX_VALUE, Long.MIN_VALUE, Long.MIN_VALUE, -1, -1, most + 1, most + 1, 1L << 32,
            1L << 32);
    }

    private static void kept(int sort, long... pairs) {
        Run run = new Run("row(0, " + sort + ", 1)");
        for (int i = 0; i < pairs.length; i += 2) {
            run.and("set(0, 0, " + pairs[i] + ")").due("element(0, 0)", pairs[i + 1]);
        }
    }

    private static void elements(Run run, int s, long... due) {
        for (int i = 0; i < due.length; i++) {
            run.due("element(" + s + ", " + i + ")", due[i]);
        }
        run.due("element(" + s + ", " + due.length + ")", 0);
    }

    /** copy: "Elements i, i + 1, .. of the ROW in SHELF p, n of them, come to elements j, j + 1, .. of that in q". */
    private static void copyOfSomeOfThem() {
        Run run = new Run().numbers(0, 2, 1, 2, 3, 4).numbers(1, 2, 9, 9, 9);
        run.due("copy(0, 1, 1, 2, 1)", 1);
        elements(run, 1, 9, 9, 2);
        run.due("copy(0, 1, 2, 0, 2)", 1);
        elements(run, 1, 3, 4, 2);
        elements(run, 0, 1, 2, 3, 4);
    }

    /** copy: "-4 n; -5 i or j below 0, or an end that isn't there". */
    private static void copyUpToTheEnds() {
        Run run = new Run().numbers(0, 2, 1, 2, 3, 4).numbers(1, 2, 9, 9, 9);
        run.dues("copy(0, 1, 1, 0, 3) 1", "copy(0, 1, 2, 0, 3) -5", "copy(0, 1, 0, 1, 2) 1", "copy(0, 1, 0, 1, 3) -5",
            "copy(0, 1, 0, 0, 3) 1", "copy(0, 1, 0, 0, 4) -5", "copy(1, 0, 0, 1, 3) 1", "copy(1, 0, 0, 2, 3) -5",
            "copy(0, 1, -1, 0, 1) -5", "copy(0, 1, 0, -1, 1) -5", "copy(0, 1, -1, 0, 0) -5",
            "copy(0, 1, 0, -1, 0) -5", "copy(0, 1, 0, 0, -1) -4", "copy(0, 1, 0, 0, MIN) -4",
            "copy(0, 1, 1, 0, MAX) -5", "copy(0, 1, 0, 1, MAX) -5", "copy(0, 1, MAX, 0, 1) -5",
            "copy(0, 1, 0, MAX, 1) -5", "copy(0, 1, MAX, MAX, MAX) -5", "copy(0, 1, MIN, 0, 1) -5",
            "copy(0, 1, 0, MIN, 1) -5");
        run.refused(0, 0, 0, 2, 15, 0, 0);
    }

    /** As above, with no elements: they may stand just behind the last, where the end still is. */
    private static void copyOfNone() {
        Run run = new Run().numbers(0, 2, 1, 2).numbers(1, 2, 9, 8, 7);
        run.dues("copy(0, 1, 0, 0, 0) 1", "copy(0, 1, 2, 3, 0) 1", "copy(0, 1, 3, 0, 0) -5", "copy(0, 1, 0, 4, 0) -5",
            "copy(0, 1, MAX, 0, 0) -5", "copy(0, 1, 0, MAX, 0) -5");
        elements(run, 1, 9, 8, 7);
        run.refused(0, 0, 0, 0, 4, 0, 0);
    }

    /** copy: "(as they were ahead)". */
    private static void copyAsTheyWereAhead() {
        Run run = new Run().numbers(0, 1, 1, 2, 3, 4, 5);
        run.due("copy(0, 0, 0, 2, 3)", 1);
        elements(run, 0, 1, 2, 1, 2, 3);
        run.due("copy(0, 0, 1, 0, 4)", 1);
        elements(run, 0, 2, 1, 2, 3, 3);
        run.due("copy(0, 0, 0, 0, 5)", 1);
        elements(run, 0, 2, 1, 2, 3, 3);
        run.due("copy(0, 0, 0, 1, 4)", 1);
        elements(run, 0, 2, 2, 1, 2, 3);
    }

    private static void copyOfFullRows() {
        Run run = new Run("row(0, 3, 160)", "row(1, 3, 160)", "set(0, 0, MIN)", "set(0, 159, MAX)", "set(1, 80, 5)");
        run.dues("copy(0, 1, 0, 0, 161) -5", "copy(0, 1, 0, 1, 160) -5", "copy(0, 1, 1, 0, 160) -5",
            "element(1, 80) 5", "copy(0, 1, 0, 0, 160) 1", "element(1, 80) 0", "copy(0, 1, 159, 1, 1) 1",
            "copy(0, 1, 160, 160, 0) 1");
        run.due("element(1, 0)", Long.MIN_VALUE);
        run.due("element(1, 159)", Long.MAX_VALUE);
        run.due("element(1, 1)", Long.MAX_VALUE);
        run.dues("copy(1, 1, 0, 1, 159) 1", "element(1, 159) 0");
        run.due("element(1, 1)", Long.MIN_VALUE);
    }

    private static void copyOfEmptyRows() {
        Run run = new Run("row(0, 0, 0)", "row(1, 0, 0)", "row(2, 0, 2)");
        run.dues("copy(0, 1, 0, 0, 0) 1", "copy(0, 2, 0, 2, 0) 1", "copy(0, 2, 0, 0, 1) -5", "copy(2, 0, 0, 0, 1) -5",
            "copy(0, 0, 0, 0, 0) 1", "copy(0, 1, 1, 0, 0) -5");
    }

    /** copy: "-2 also of two SORTS (when both hold something)". */
    private static void copyOfTwoSorts() {
        for (int sort = 0; sort < 4; sort++) {
            for (int other = 0; other < 4; other++) {
                Run run = new Run().numbers(0, sort, 5).numbers(1, other, 6);
                run.due("copy(0, 1, 0, 0, 1)", sort == other ? 1 : -2);
                run.due("element(1, 0)", sort == other ? 5 : 6);
                run.due("copy(0, 2, 0, 0, 0)", -3);
                run.due("copy(2, 1, 0, 0, 0)", -3);
                run.refused(0, sort == other ? 0 : 1, 2, 0, 0, 0, 0);
            }
        }
        Run run = new Run("stuff(0, 0, 0)", "show(0, 0)", "row(1, 0, 1)");
        run.dues("copy(0, 0, 0, 0, 0) -2", "copy(0, 1, 0, 0, 0) -2", "copy(1, 0, 0, 0, 0) -2",
            "copy(0, 2, 0, 0, 0) -2", "copy(2, 0, 0, 0, 0) -2", "copy(2, 3, 0, 0, 0) -3", "copy(2, 2, 0, 0, 0) -3");
        run.refused(0, 5, 2, 0, 0, 0, 0);
    }

    /** element: "0 if there is none (nothing is refused)". */
    private static void elementOrZero() {
        Run run = new Run("stuff(0, 0, 0)").numbers(0, 3, 7, 8).and("show(1, 0)", "row(2, 0, 0)");
        run.dues("element(0, 0) 7", "element(0, 1) 8", "element(0, 2) 0", "element(0, -1) 0", "element(0, MIN) 0",
            "element(0, MAX) 0", "element(1, 0) 0", "element(2, 0) 0", "element(3, 0) 0", "element(-1, 0) 0",
            "element(8, 0) 0");
        run.numbers(0, 3, 7, 8).and("row(0, 3, 1)").dues("element(0, 0) 0", "element(0, 1) 0");
        run.numbers(0, 3, 7, 8).and("show(0, 0)").dues("element(0, 0) 0", "element(0, 1) 0");
        run.numbers(0, 3, 7, 8).and("show(0, -1)").dues("element(0, 0) 0", "element(0, 1) 0");
        run.refused(0, 0, 0, 0, 0, 0, 0);
    }

    /** show: "SHELF s holds a STUFF, or NOTHING (stuff NONE): 1, 0. -1." */
    private static void showOfTheFirstAndLastStuff() {
        Run run = new Run();
        run.dues("show(0, 0) -1", "show(0, -1) 0", "stuff(0, 0, 0) 0", "show(0, 0) 1", "show(0, 1) -1", "holds(0) 0");
        for (int stuff = 1; stuff < 8; stuff++) {
            run.and("stuff(0, 0, 0)");
        }
        run.dues("show(0, 7) 1", "holds(0) 7", "show(0, 8) -1", "show(0, -2) -1", "show(0, MIN) -1",
            "show(0, MAX) -1", "holds(0) 7", "show(0, -1) 0", "holds(0) -1", "show(0, -1) 0", "show(8, -1) -1");
        run.refused(7, 0, 0, 0, 0, 0, 0);
    }

    /** holds: "NONE NOTHING, or no such SHELF; a STUFF's number; 100 and the SORT of a ROW". */
    private static void holdsTellsSorts() {
        Run run = new Run("stuff(0, 0, 0)", "row(0, 0, 0)", "row(1, 1, 160)", "row(2, 2, 0)", "row(3, 3, 1)",
            "show(4, 0)");
        run.dues("holds(0) 100", "holds(1) 101", "holds(2) 102", "holds(3) 103", "holds(4) 0", "holds(5) -1",
            "holds(-1) -1", "holds(8) -1", "row(4, 3, 0) 1", "holds(4) 103", "show(4, 0) 1", "holds(4) 0");
        run.refused(0, 0, 0, 0, 0, 0, 0);
    }

    /**
     * says: "SEED on how many CELLS it is LAID; MOSS how many CELLS are PLANNED with it": none, all, and only its
     * own.
     */
    private static void saysOfNoneAndAll() {
        Run run = new Run("stuff(1, 0, 0)", "stuff(2, 0, 0)", "stuff(1, 0, 0)", "show(0, 0)", "show(1, 1)",
            "show(2, 2)");
        run.dues("says(0, 1) 0", "says(1, 2) 0");
        for (int cell = 23; cell >= 0; cell--) {
            run.and("lay(" + cell + ", 0)", "plan(" + cell + ", 1)");
        }
        run.dues("says(0, 1) 24", "says(1, 2) 24", "says(2, 1) 0", "strip(0) 0", "says(0, 1) 23", "lay(0, 2) 24",
            "says(0, 1) 23", "says(2, 1) 1", "plan(23, -1) 0", "says(1, 2) 23", "plan(0, 0) 1", "says(1, 2) 22");
    }

    /** says: "LICHEN, BLUE, FINE its FRESH behind 24 HOURS in the SUN, none in SHADE, 2 SPRAYS; FERN its a". */
    private static void saysFreshness() {
        // 48 brown: by 10 is 4, by 9, 8 and 7 are 5, 6 and 6 (one more would be 7), by 6 and 5 are 8 and 9
        int[][] due = {{0, 9, 0, 0}, {4, 9, 0, 0}, {5, 9, 1, 0}, {6, 9, 3, 1}, {7, 9, 3, 1}, {8, 9, 4, 2}, {9, 9, 5,
            3}};
        for (int[] one : due) {
            String a = ", 0, " + one[0] + ")";
            Run run = new Run("stuff(3" + a, "stuff(4" + a, "stuff(5" + a, "stuff(6" + a);
            run.and("show(3, 0)", "show(4, 1)", "show(5, 2)", "show(6, 3)");
            run.due("says(3, 3)", one[1]);
            run.due("says(4, 4)", one[2]);
            run.due("says(5, 5)", one[3]);
            run.due("says(5, 4)", one[3]);
            run.due("says(6, 6)", one[0]);
        }
    }

    /** says: "-1 .. KIND; -2 also a STUFF of another KIND" (or one above; one under it may be). */
    private static void saysOfEachKind() {
        String[] under = {"0", "01", "02", "013", "04", "045", "026"};
        for (int kind = 0; kind < 7; kind++) {
            Run run = new Run("stuff(" + kind + ", 7, 1)", "show(0, 0)");
            run.dues("says(0, -1) -1", "says(0, 7) -1", "says(0, 0) 7");
            int others = 0;
            for (int wanted = 0; wanted < 7; wanted++) {
                boolean fits = under[kind].indexOf('0' + wanted) >= 0;
                others += fits ? 0 : 1;
                long got = run.call("says(0, " + wanted + ")");
                Check.due("kind " + kind + " says as " + wanted, got == -2 ? 0 : 1, fits ? 1 : 0);
            }
            run.refused(2, others, 0, 0, 0, 0, 0);
        }
    }
}
