/**
 * Promises 9 to 13, a sentence of the document ahead of each test: the edges of stuffs, the drawing and what is
 * planned.
 */
public final class EdgesOfDrawingTest {
    public static void main(String[] args) {
        eightStuffsAtMost();
        kindsAre0To6();
        coloursOfStuffsAre0To7();
        aIs0To9();
        stuffOfWhatThereIs();
        cellsAre0To23();
        coloursOfTheDrawing();
        cellOfWhatThereIs();
        cellOfABareOne();
        plansOfTheFirstAndLastStuff();
        aPlanStays();
        fullDrawing();
        Check.end();
    }

    /** "STUFFS have numbers, from 0 on, 8 at most"; stuff: "-7". */
    private static void eightStuffsAtMost() {
        Run run = new Run();
        for (int stuff = 0; stuff < 8; stuff++) {
            run.due("stuff(" + stuff % 7 + ", " + stuff + ", " + (9 - stuff) + ")", stuff);
            run.due("status(0)", stuff + 1);
        }
        run.dues("stuff(0, 0, 0) -7", "stuff(6, 7, 9) -7", "status(0) 8");
        for (int stuff = 0; stuff < 8; stuff++) {
            run.due("stuffOf(" + stuff + ", 0)", stuff % 7);
            run.due("stuffOf(" + stuff + ", 1)", stuff);
            run.due("stuffOf(" + stuff + ", 2)", 9 - stuff);
        }
        run.dues("stuffOf(8, 0) -5", "show(0, 7) 1", "show(0, 8) -1", "plan(0, 7) 1", "plan(0, 8) -1", "lay(0, 7) 1",
            "lay(1, 8) -1", "act(7, 0, 1) 8", "act(8, 0, 1) 0");
        run.refused(3, 0, 0, 0, 1, 0, 2);
    }

    /** "each of a KIND"; stuff: "-1 KIND". */
    private static void kindsAre0To6() {
        Run run = new Run();
        run.dues("stuff(-1, 0, 0) -1", "stuff(0, 0, 0) 0", "stuff(6, 0, 0) 1", "stuff(7, 0, 0) -1",
            "stuff(MIN, 0, 0) -1", "stuff(MAX, 0, 0) -1", "stuffOf(0, 0) 0", "stuffOf(1, 0) 6", "stuffOf(2, 0) -5",
            "status(0) 2");
        run.refused(4, 0, 0, 0, 1, 0, 0);
    }

    /** "a COLOUR (0 to 7..)"; stuff: "-6". */
    private static void coloursOfStuffsAre0To7() {
        Run run = new Run();
        run.dues("stuff(0, -1, 0) -6", "stuff(0, 0, 0) 0", "stuff(0, 7, 0) 1", "stuff(0, 8, 0) -6",
            "stuff(0, MIN, 0) -6", "stuff(0, MAX, 0) -6", "stuffOf(0, 1) 0", "stuffOf(1, 1) 7", "status(0) 2");
        run.refused(0, 0, 0, 0, 0, 4, 0);
    }

    /** "a (0 to 9)"; stuff: "-6". */
    private static void aIs0To9() {
        Run run = new Run();
        run.dues("stuff(0, 0, -1) -6", "stuff(0, 0, 0) 0", "stuff(0, 0, 9) 1", "stuff(0, 0, 10) -6",
            "stuff(0, 0, MIN) -6", "stuff(0, 0, MAX) -6", "stuffOf(0, 2) 0", "stuffOf(1, 2) 9", "status(0) 2");
        run.refused(0, 0, 0, 0, 0, 4, 0);
    }

    /** stuffOf: "0 KIND, 1 COLOUR, 2 a. -5: no such one, another what". */
    private static void stuffOfWhatThereIs() {
        Run run = new Run();
        run.dues("stuffOf(0, 0) -5", "stuff(3, 4, 5) 0", "stuffOf(0, -1) -5", "stuffOf(0, 0) 3", "stuffOf(0, 1) 4",
            "stuffOf(0, 2) 5", "stuffOf(0, 3) -5", "stuffOf(-1, 0) -5", "stuffOf(1, 0) -5", "stuffOf(MIN, MIN) -5",
            "stuffOf(MAX, MAX) -5");
        run.refused(0, 0, 0, 0, 7, 0, 0);
    }

    /** "CELLS are 0 to 23": of each call with a CELL. */
    private static void cellsAre0To23() {
        Run run = new Run("stuff(0, 0, 0)");
        run.dues("cell(-1, 0) -1", "cell(0, 0) 1", "cell(23, 0) 1", "cell(24, 0) -1", "cellOf(-1, 0) -15",
            "cellOf(0, 0) 0", "cellOf(23, 0) 0", "cellOf(24, 0) -15", "plan(-1, 0) -1", "plan(0, 0) 1",
            "plan(23, 0) 1", "plan(24, 0) -1", "may(-1) -1", "may(0) 1", "may(23) 1", "may(24) -1",
            "best(-1, 0, 0, 0) -11", "best(0, 0, 0, 0) 0", "best(23, 0, 0, 0) 0", "best(24, 0, 0, 0) -11",
            "lay(-1, 0) -1", "lay(0, 0) 1", "lay(23, 0) 2", "lay(24, 0) -1", "fresh(-1, 0) -1", "fresh(0, 0) 9",
            "fresh(23, 0) 9", "fresh(24, 0) -1", "beauty(-1, 0) -1", "beauty(0, 0) 9", "beauty(23, 0) 9",
            "beauty(24, 0) -1", "strip(-1) -1", "strip(0) 0", "strip(23) 0", "strip(24) -1");
        run.refused(16, 0, 0, 0, 2, 0, 0);
    }

    /** "a COLOUR in the drawing (0 to 7; NONE at first)"; cell: "(NONE: none): 1, 0. .. -6". */
    private static void coloursOfTheDrawing() {
        Run run = new Run();
        run.dues("cellOf(5, 0) -1", "cell(5, -2) -6", "cell(5, -1) 0", "cellOf(5, 0) -1", "cell(5, 0) 1",
            "cellOf(5, 0) 0", "cell(5, 7) 1", "cellOf(5, 0) 7", "cell(5, 8) -6", "cell(5, MIN) -6", "cell(5, MAX) -6",
            "cellOf(5, 0) 7", "cell(5, -1) 0", "cellOf(5, 0) -1");
        run.refused(0, 0, 0, 0, 0, 4, 0);
    }

    /**
     * cellOf: "0 COLOUR (NONE), 1 the STUFF LAID .., 5 SPRAYS .. -15: no such CELL, another what (counted as -5)".
     */
    private static void cellOfWhatThereIs() {
        Run run = new Run("stuff(0, 0, 0)", "stuff(0, 0, 0)", "cell(0, 3)", "lay(0, 1)", "plan(0, 0)", "side(1)",
            "hours(2)", "side(0)", "hours(4)", "spray()");
        run.dues("cellOf(0, -1) -15", "cellOf(0, 0) 3", "cellOf(0, 1) 1", "cellOf(0, 2) 0", "cellOf(0, 3) 2",
            "cellOf(0, 4) 4", "cellOf(0, 5) 1", "cellOf(0, 6) -15", "cellOf(0, MIN) -15", "cellOf(0, MAX) -15",
            "cellOf(24, 6) -15", "cellOf(-1, 0) -15");
        run.refused(0, 0, 0, 0, 6, 0, 0);
    }

    /** cellOf: "(0 of a BARE one)": of one that was never laid, and of one made bare. */
    private static void cellOfABareOne() {
        Run run = new Run("stuff(0, 0, 0)", "lay(0, 0)", "side(1)", "hours(2)", "side(2)", "hours(3)", "spray()");
        run.dues("cellOf(1, 3) 0", "cellOf(1, 4) 0", "cellOf(1, 5) 0", "cellOf(0, 3) 2", "cellOf(0, 4) 3",
            "cellOf(0, 5) 1", "strip(0) 0", "cellOf(0, 3) 0", "cellOf(0, 4) 0", "cellOf(0, 5) 0", "hours(5) 10",
            "spray() 60", "cellOf(0, 4) 0", "cellOf(0, 5) 0", "lay(0, 0) 1", "cellOf(0, 3) 0", "cellOf(0, 4) 0",
            "cellOf(0, 5) 0");
    }

    /** plan: "A STUFF (NONE: none) is PLANNED for a CELL: 1, 0. -1." */
    private static void plansOfTheFirstAndLastStuff() {
        Run run = new Run();
        run.dues("cellOf(4, 2) -1", "plan(4, 0) -1", "plan(4, -1) 0", "stuff(0, 0, 0) 0", "stuff(0, 0, 0) 1",
            "plan(4, -2) -1", "plan(4, 0) 1", "cellOf(4, 2) 0", "plan(4, 1) 1", "cellOf(4, 2) 1", "plan(4, 2) -1",
            "plan(4, MIN) -1", "plan(4, MAX) -1", "cellOf(4, 2) 1", "plan(4, -1) 0", "cellOf(4, 2) -1",
            "plan(24, -1) -1");
        run.refused(6, 0, 0, 0, 0, 0, 0);
    }

    /** "A plan stays when a CELL is LAID" (and when it is made bare again). */
    private static void aPlanStays() {
        Run run = new Run("stuff(0, 0, 0)", "stuff(0, 0, 4)", "plan(23, 1)", "lay(23, 0)");
        run.dues("cellOf(23, 2) 1", "done(1) 0", "next() -1", "strip(23) 0", "cellOf(23, 2) 1", "done(1) 6",
            "next() 23", "lay(23, 1) 1", "cellOf(23, 2) 1", "plan(23, 0) 1", "cellOf(23, 1) 1", "cellOf(23, 2) 0");
    }

    /** A board that is full: all cells drawn, planned and laid. */
    private static void fullDrawing() {
        Run run = new Run("stuff(0, 7, 0)", "stuff(0, 0, 0)");
        for (int cell = 23; cell >= 0; cell--) {
            run.and("cell(" + cell + ", " + cell % 8 + ")", "plan(" + cell + ", 1)", "lay(" + cell + ", 0)");
        }
        for (int cell = 0; cell < 24; cell++) {
            run.due("cellOf(" + cell + ", 0)", cell % 8);
            run.due("cellOf(" + cell + ", 1)", 0);
            run.due("cellOf(" + cell + ", 2)", 1);
            run.due("may(" + cell + ")", 0);
        }
        run.dues("status(1) 24", "next() -1", "done(1) 0", "women(0) 1", "lacking() 126", "looks(0) 27");
        for (int cell = 0; cell < 24; cell++) {
            run.due("cell(" + cell + ", -1)", 0);
            run.due("plan(" + cell + ", -1)", 0);
        }
        run.dues("status(1) 24", "lacking() 0", "wrong() 16777215", "looks(0) 0");
    }
}
