/**
 * Promises 25 to 33 and 35 to 38, a sentence of the document ahead of each test: the edges of what is told in
 * thought.
 */
public final class EdgesOfThoughtTest {
    public static void main(String[] args) {
        hoursFToT("worst", "");
        hoursFToT("all", "");
        hoursFToT("turn", "");
        hoursOfBest();
        worstIsTheFirst();
        allOfThese();
        bestOfItsColour();
        bestIsTheFirst();
        bestOfEightStuffs();
        bestWereItLaidNow();
        bestOfNoHoursAndNoSprays();
        bestHows();
        turnIsTheFirst();
        nextIsTheLowestRowsFirst();
        nextMayBeLaid();
        nextOfAFullPlan();
        doneByOneToSix();
        doneOfNothing();
        doneOfOne();
        doneOfAll();
        doneFromBelow();
        doneTakesTheMostLeft();
        doneFinishesFirst();
        womenForAMinute();
        womenOfTheFewest();
        dryIsTheFirstHour();
        sprayingsFor0To240Hours();
        sprayingsJustAhead();
        ageOfNoCells();
        ageOfAllCells();
        ageIs0To240();
        ageIsTheFirst();
        ageRefusals();
        lackingBits();
        wrongBits();
        judgeOf0To40();
        judgeIsTheFirst();
        judgeNumbers();
        judgeRefusals();
        Check.end();
    }

    /** "HOURS from f to t (0 to 240)"; "-6 also t below f"; "-6 likewise". */
    private static void hoursFToT(String name, String further) {
        Run run = new Run("stuff(3, 0, 0)", "cell(0, 0)", "lay(0, 0)");
        boolean all = name.equals("all");
        String[][] may = {{"0, 0", "9"}, {"0, 240", "2169"}, {"240, 240", "9"}, {"239, 240", "18"}, {"7, 7", "9"}};
        for (String[] one : may) {
            String first = one[0].substring(0, one[0].indexOf(','));
            run.dues(name + "(" + one[0] + ") " + (all ? one[1] : name.equals("worst") ? first : "0"));
        }
        String[] not = {"-1, 0", "-1, -1", "0, 241", "241, 241", "1, 0", "240, 239", "240, 0", "MIN, MAX", "MAX, MIN",
            "MIN, MIN", "MAX, MAX",
            "0, MAX", "MIN, 240", "0, -1", "241, 240"};
        for (String one : not) {
            run.due(name + "(" + one + ")", -6);
        }
        run.refused(0, 0, 0, 0, 0, not.length, 0);
    }

    /** best: "-16 f, t likewise". */
    private static void hoursOfBest() {
        Run run = new Run("stuff(3, 0, 0)", "cell(0, 0)");
        String[] may = {"0, 0", "0, 240", "240, 240", "239, 240"};
        String[] not = {"-1, 0", "-1, -1", "0, 241", "241, 241", "1, 0", "240, 239", "MIN, MAX", "MAX, MIN", "0, MAX",
            "MIN, 240", "0, -1"};
        for (int how = 0; how < 2; how++) {
            for (String one : may) {
                run.dues("best(0, " + one + ", " + how + ") 0", "best(1, " + one + ", " + how + ") -1");
            }
            for (String one : not) {
                run.dues("best(0, " + one + ", " + how + ") -16", "best(1, " + one + ", " + how + ") -16");
            }
        }
        run.refused(0, 0, 0, 0, 0, 44, 0);
    }

    /** "the first one with the least LOOKS". */
    private static void worstIsTheFirst() {
        Run run = new Run("stuff(0, 0, 1)", "cell(0, 0)", "lay(0, 0)");
        // 9 9 8 8 7 7 .. 1 1 0 0 ..: the first 0 is at hour 18
        run.dues("worst(0, 1) 0", "worst(0, 2) 2", "worst(0, 3) 2", "worst(1, 3) 2", "worst(3, 3) 3",
            "worst(0, 17) 16", "worst(0, 18) 18", "worst(0, 240) 18", "worst(19, 240) 19", "worst(239, 240) 239",
            "worst(240, 240) 240");
        new Run().dues("worst(0, 240) 0", "worst(5, 9) 5");
        Run late = new Run("stuff(2, 0, 9)", "cell(0, 0)", "lay(0, 0)");
        for (int i = 0; i < 25; i++) {
            late.and("spray()");
        }
        // whole up to 159, and 8 fewer behind 80 hours more: 240 is the first of 1
        late.dues("worst(0, 159) 0", "worst(0, 160) 160", "worst(0, 239) 230", "worst(0, 240) 240");
    }

    /** "LOOKS of all these HOURS together": the first and the last, too. */
    private static void allOfThese() {
        Run run = new Run("stuff(0, 0, 0)", "cell(0, 0)", "lay(0, 0)");
        run.dues("all(0, 0) 9", "all(0, 1) 17", "all(1, 1) 8", "all(1, 2) 15", "all(0, 8) 45", "all(0, 9) 45",
            "all(0, 240) 45", "all(8, 8) 1", "all(8, 240) 1", "all(9, 240) 0", "all(240, 240) 0");
    }

    /** "of all STUFFS of its COLOUR"; best: "NONE: no such STUFF, no COLOUR". */
    private static void bestOfItsColour() {
        new Run().dues("best(0, 0, 0, 0) -1", "cell(0, 0) 1", "best(0, 0, 0, 0) -1");
        Run run = new Run("stuff(0, 0, 0)", "stuff(0, 7, 0)", "cell(1, 0)", "cell(2, 7)", "cell(3, 3)");
        run.dues("best(0, 0, 0, 0) -1", "best(1, 0, 0, 0) 0", "best(2, 0, 0, 0) 1", "best(3, 0, 0, 0) -1",
            "best(0, 0, 240, 1) -1", "best(1, 240, 240, 1) 0", "best(2, 240, 240, 0) 1", "cell(1, -1) 0",
            "best(1, 0, 0, 0) -1");
        run.refused(0, 0, 0, 0, 0, 0, 0);
    }

    /** "is most, of several the first": 0 may be the most, too. */
    private static void bestIsTheFirst() {
        Run run = new Run("stuff(0, 1, 0)", "stuff(0, 1, 1)", "stuff(0, 1, 1)", "cell(9, 1)");
        run.dues("best(9, 0, 0, 0) 0", "best(9, 0, 0, 1) 0", "best(9, 0, 1, 0) 1", "best(9, 0, 1, 1) 1",
            "best(9, 17, 17, 0) 1", "best(9, 18, 18, 0) 0", "best(9, 18, 240, 0) 0", "best(9, 18, 240, 1) 0",
            "best(9, 0, 17, 1) 1", "best(9, 0, 18, 1) 0", "best(9, 0, 18, 0) 1");
    }

    /** 8 at most: the last one counts, too. */
    private static void bestOfEightStuffs() {
        Run run = new Run();
        for (int a = 2; a < 9; a++) {
            run.and("stuff(0, 1, " + a + ")");
        }
        run.and("stuff(3, 1, 0)", "cell(9, 1)");
        run.dues("best(9, 0, 240, 0) 7", "best(9, 0, 240, 1) 7", "best(9, 0, 2, 0) 0", "best(9, 0, 8, 0) 6",
            "best(9, 0, 9, 0) 7", "best(9, 0, 9, 1) 7");
    }

    /** "were it LAID there now": no hours and no sprays yet, SIDE as it is; what lies there does not count. */
    private static void bestWereItLaidNow() {
        Run run = new Run("stuff(2, 1, 0)", "stuff(0, 1, 1)", "stuff(4, 1, 2)", "cell(0, 1)", "cell(2, 1)",
            "lay(0, 0)", "spray()", "spray()", "hours(30)", "side(1)");
        // hours 0 to 2: moss 9 8 7, petal 9 9 8; blue in the sun 9 9 8, in the shade 9 9 9
        run.dues("best(0, 0, 2, 0) 1", "best(2, 0, 2, 0) 2", "best(0, 0, 2, 1) 1", "best(2, 0, 2, 1) 2", "side(2) 1",
            "best(0, 0, 2, 0) 2", "best(2, 0, 2, 0) 1", "side(0) 2", "best(0, 0, 2, 0) 2", "best(2, 0, 2, 0) 2",
            "cellOf(0, 1) 0", "cellOf(2, 1) -1");
        Run seeds = new Run("stuff(1, 1, 0)", "stuff(0, 1, 9)", "cell(0, 1)");
        // at hour 13 a seed has 8 and the petal 8, too; at 14 it has 7
        seeds.dues("best(0, 0, 12, 1) 0", "best(0, 13, 13, 0) 0", "best(0, 14, 14, 0) 1", "best(0, 0, 13, 1) 0",
            "best(0, 0, 14, 1) 1", "best(0, 0, 14, 0) 0", "best(0, 0, 16, 0) 1", "best(0, 0, 15, 0) 0");
    }

    /**
     * "LAID there now": in the sun there are no hours in the shade yet, and no sprays that moss could live by or fine
     * ones fade by.
     */
    private static void bestOfNoHoursAndNoSprays() {
        Run run = new Run("stuff(0, 1, 9)", "stuff(3, 1, 9)", "stuff(0, 2, 0)", "stuff(2, 2, 0)", "stuff(5, 3, 9)",
            "stuff(4, 3, 9)", "stuff(4, 4, 9)", "stuff(5, 4, 9)", "cell(20, 1)", "cell(21, 2)", "cell(22, 3)",
            "cell(18, 4)", "cell(23, 1)", "side(1)");
        for (int i = 0; i < 3; i++) {
            // a petal of 10 is whole behind 9 hours, as a lichen; moss without sprays is like a petal, fine without
            // sprays like blue
            run.dues("best(20, 0, 9, 0) 0", "best(20, 0, 10, 0) 1", "best(20, 0, 9, 1) 0", "best(20, 0, 10, 1) 1",
                "best(23, 0, 9, 0) 0", "best(23, 0, 10, 0) 1", "best(21, 0, 9, 0) 2", "best(21, 1, 1, 1) 2",
                "best(22, 0, 240, 0) 4", "best(22, 0, 0, 1) 4", "best(18, 0, 240, 0) 6", "best(18, 0, 0, 1) 6");
            run.and("side(" + (i == 0 ? 2 : 0) + ")", "spray()", "hours(9)");
        }
    }

    /** "(how 0) or at its worst HOUR (how 1)"; best: "-15 another how". */
    private static void bestHows() {
        Run run = new Run("stuff(0, 1, 4)", "stuff(1, 1, 0)", "cell(0, 1)");
        // 0 to 16: petal 9*5 8*5 7*5 6*2 is 132, at worst 6; seed 9*13 8 7 6 5 is 143, at worst 5
        run.dues("best(0, 0, 16, -1) -15", "best(0, 0, 16, 0) 1", "best(0, 0, 16, 1) 0", "best(0, 0, 16, 2) -15",
            "best(0, 0, 16, MIN) -15", "best(0, 0, 16, MAX) -15", "best(-1, 0, 16, 2) -11", "best(24, 0, 16, 2) -11",
            "best(0, 16, 0, 2) -15");
        run.refused(2, 0, 0, 0, 5, 0, 0);
    }

    /**
     * "TURN: the SIDE (0 to 2) with which ALL of HOURS f to t is most, of several the first": sun never does good.
     */
    private static void turnIsTheFirst() {
        for (int side = 0; side < 3; side++) {
            Run run = new Run("stuff(4, 0, 0)", "stuff(5, 0, 9)", "cell(0, 0)", "cell(1, 0)", "cell(2, 0)",
                "lay(0, 0)", "lay(1, 1)", "side(" + side + ")");
            run.dues("turn(0, 0) 0", "turn(0, 240) 0", "turn(1, 1) 0", "turn(240, 240) 0", "status(3) " + side,
                "lay(2, 1) 3", "turn(0, 240) 0", "strip(0) 0", "strip(1) 1", "turn(0, 240) 0", "strip(2) 1",
                "turn(0, 240) 0");
        }
        new Run().dues("turn(0, 0) 0", "turn(0, 240) 0");
    }

    /** "of the PLANNED ones that MAY be LAID the lowest row's, of several the first column's; NONE". */
    private static void nextIsTheLowestRowsFirst() {
        Run run = new Run("stuff(0, 0, 0)");
        run.due("next()", -1);
        for (int cell = 3; cell >= 0; cell--) {
            run.and("plan(" + cell + ", 0)").due("next()", cell);
        }
        for (int row = 1; row < 6; row++) {
            for (int column = 3; column >= 0; column--) {
                run.and("plan(" + (4 * row + column) + ", 0)").due("next()", 4 * row + column);
            }
        }
        for (int row = 5; row >= 0; row--) {
            for (int column = 0; column < 4; column++) {
                run.due("next()", 4 * row + column);
                run.and("lay(" + (4 * row + column) + ", 0)");
            }
        }
        run.due("next()", -1);
    }

    /** As above: bare ones over one that is drawn and bare don't count. */
    private static void nextMayBeLaid() {
        Run run = new Run("stuff(0, 0, 0)", "plan(16, 0)", "plan(13, 0)", "cell(20, 0)");
        run.dues("next() 13", "cell(17, 0) 1", "next() -1", "lay(20, 0) 1", "next() 16", "lay(16, 0) 2", "next() -1",
            "lay(17, 0) 3", "next() 13", "plan(13, -1) 0", "next() -1", "plan(23, 0) 1", "next() 23");
    }

    /** All planned, all drawn: from below upward, the first column first. */
    private static void nextOfAFullPlan() {
        Run run = new Run("stuff(0, 0, 0)");
        for (int cell = 0; cell < 24; cell++) {
            run.and("plan(" + cell + ", 0)", "cell(" + cell + ", 0)");
        }
        for (int row = 5; row >= 0; row--) {
            for (int column = 0; column < 4; column++) {
                int cell = 4 * row + column;
                run.dues("next() " + cell, "lay(" + cell + ", 0) " + (21 - 4 * row + column));
            }
        }
        run.dues("next() -1", "strip(22) 0", "next() 22", "strip(10) 0", "next() 22", "lay(22, 0) 23", "next() 10");
    }

    /** done: "w women (1 to 6) .. -6 w". */
    private static void doneByOneToSix() {
        Run run = new Run("stuff(0, 0, 0)", "plan(0, 0)", "plan(5, 0)", "plan(10, 0)", "plan(15, 0)");
        run.dues("done(0) -6", "done(1) 40", "done(2) 20", "done(3) 20", "done(4) 10", "done(5) 10", "done(6) 10",
            "done(7) -6", "done(-1) -6", "done(MIN) -6", "done(MAX) -6");
        run.refused(0, 0, 0, 0, 0, 5, 0);
    }

    /** done: "(0: nothing is PLANNED that is BARE)". */
    private static void doneOfNothing() {
        Run run = new Run("stuff(0, 0, 0)");
        run.dues("done(1) 0", "done(6) 0", "women(0) 1", "plan(7, 0) 1", "done(1) 10", "women(0) -1", "lay(7, 0) 1",
            "done(1) 0", "done(6) 0", "women(0) 1", "strip(7) 0", "done(6) 10", "plan(7, -1) 0", "done(6) 0");
    }

    /** "each PLANNED CELL that is BARE takes 10 MINUTES less a of its STUFF": from 10 to 1. */
    private static void doneOfOne() {
        for (int a = 0; a <= 9; a++) {
            Run run = new Run("stuff(0, 0, 5)", "stuff(6, 7, " + a + ")", "plan(23, 1)");
            run.dues("done(1) " + (10 - a), "done(6) " + (10 - a), "women(" + (10 - a) + ") 1", "women(" + (9 - a)
                + ") -1");
            run.dues("plan(0, 1) 1", "done(1) " + (20 - 2 * a), "done(2) " + (10 - a));
        }
    }

    private static Run allPlanned(int a) {
        Run run = new Run("stuff(0, 0, " + a + ")");
        for (int cell = 0; cell < 24; cell++) {
            run.and("plan(" + cell + ", 0)");
        }
        return run;
    }

    /** All 24 planned: most minutes that there can be, and fewest. */
    private static void doneOfAll() {
        allPlanned(0).dues("done(1) 240", "done(2) 120", "done(3) 80", "done(4) 60", "done(5) 60", "done(6) 60",
            "women(240) 1", "women(239) 2", "women(120) 2", "women(119) 3", "women(80) 3", "women(79) 4",
            "women(60) 4", "women(59) -1", "women(999) 1");
        allPlanned(9).dues("done(1) 24", "done(2) 12", "done(3) 8", "done(4) 6", "done(5) 6", "done(6) 6",
            "women(24) 1", "women(23) 2", "women(6) 4", "women(5) -1", "women(0) -1");
    }

    /** "a CELL can be begun when no PLANNED BARE one of its column below it is left undone". */
    private static void doneFromBelow() {
        Run run = new Run("stuff(0, 0, 0)", "stuff(0, 0, 9)", "plan(2, 0)", "plan(14, 1)", "plan(22, 0)");
        run.dues("done(1) 21", "done(2) 21", "done(6) 21", "lay(14, 0) 1", "done(6) 20", "lay(22, 0) 2", "done(6) 10",
            "lay(2, 0) 3", "done(6) 0");
        // it does not matter for the women whether a cell may be laid, nor what lies between
        Run drawn = new Run("stuff(0, 0, 0)", "cell(23, 0)", "plan(19, 0)");
        drawn.dues("may(19) 0", "done(1) 10", "next() -1");
    }

    /**
     * "takes .. that above which (itself, too) most MINUTES are left in its column, of several the first column's".
     */
    private static void doneTakesTheMostLeft() {
        // minutes from below: column 0: 3; column 1: 2, 2; two women: 1 (4) and 0 (3); at 2: 1 again, till 4
        Run two = new Run("stuff(0, 0, 7)", "stuff(0, 0, 8)", "plan(20, 0)", "plan(21, 1)", "plan(17, 1)");
        two.dues("done(1) 7", "done(2) 4", "done(3) 4");
        // column 3: 1, 1, 1, 1; column 0: 4; column 1: 4: of like ones 0, then 1; one woman goes on with 3 at 4
        Run like = new Run("stuff(0, 0, 6)", "stuff(0, 0, 9)", "plan(20, 0)", "plan(21, 0)", "plan(23, 1)",
            "plan(19, 1)", "plan(15, 1)", "plan(11, 1)");
        // at 0: columns 0 and 1; at 4 both are free: column 3 takes one of them, one behind another: till 8
        like.dues("done(2) 8", "done(3) 4", "done(1) 12");
        // column 2 has 5 left in two cells, column 0 has 4 in one, column 1 has 3 in one: 2 (5) and 0 (4); at 1: 2
        // (4) before 1 (3), till 5;
        // at 4: 1 till 7
        Run itself = new Run("stuff(0, 0, 6)", "stuff(0, 0, 7)", "stuff(0, 0, 9)", "plan(0, 0)", "plan(1, 1)",
            "plan(22, 2)", "plan(2, 0)");
        itself.dues("done(2) 7", "done(3) 5", "done(1) 12");
    }

    /** "(At one MINUTE all who finish do so ahead of anybody taking one.)" */
    private static void doneFinishesFirst() {
        // columns 0: 3, 1; 1: 3, 4; 2: 3. Two women: 1 (7) and 0 (4); at 3 both are free: 1 (4) and 2 (3); at 6: 0
        // (1); at 7 all are done
        Run two = new Run("stuff(0, 0, 7)", "stuff(0, 0, 9)", "stuff(0, 0, 6)", "plan(20, 0)", "plan(16, 1)",
            "plan(21, 0)", "plan(17, 2)", "plan(22, 0)");
        two.dues("done(2) 7", "done(1) 14", "done(3) 7");
        // columns 0: 5, 1; 1: 5, 9; 2: 6. Two women: 1 (14) and 0 (6, as 2); at 5 both are free: 1 (9) till 14 and 2
        // (6) till 11; 0 (1) till 12
        Run like = new Run("stuff(0, 0, 5)", "stuff(0, 0, 9)", "stuff(0, 0, 1)", "stuff(0, 0, 4)", "plan(20, 0)",
            "plan(16, 1)", "plan(21, 0)", "plan(17, 2)", "plan(22, 3)");
        like.dues("done(2) 14", "done(1) 26", "done(3) 14");
        // four columns of 2, 2: at 2 all four finish, and all four begin again; two women do two columns, then the
        // others' cells by turns
        Run four = new Run("stuff(0, 0, 8)");
        for (int cell = 16; cell < 24; cell++) {
            four.and("plan(" + cell + ", 0)");
        }
        four.dues("done(4) 4", "done(2) 8", "done(3) 6", "done(1) 16");
    }

    /** women: "a MINUTE (0 to 999); NONE. -16". */
    private static void womenForAMinute() {
        Run run = new Run("stuff(0, 0, 0)", "plan(0, 0)", "plan(1, 0)");
        run.dues("women(-1) -16", "women(0) -1", "women(9) -1", "women(10) 2", "women(19) 2", "women(20) 1",
            "women(999) 1", "women(1000) -16", "women(MIN) -16", "women(MAX) -16");
        run.refused(0, 0, 0, 0, 0, 4, 0);
    }

    /** "WOMEN: the fewest (1 to 6) DONE by a MINUTE." */
    private static void womenOfTheFewest() {
        allPlanned(3).dues("women(168) 1", "women(167) 2", "women(84) 2", "women(83) 3", "women(56) 3", "women(55) 4",
            "women(42) 4", "women(41) -1");
        Run column = new Run("stuff(0, 0, 0)", "plan(20, 0)", "plan(0, 0)");
        column.dues("women(20) 1", "women(19) -1");
    }

    /** "DRY: the first HOUR behind which WET is 0"; dry: "(1 to 240)". */
    private static void dryIsTheFirstHour() {
        int[][] ofWet = {{0, 1, 1}, {1, 1, 1}, {2, 2, 1}, {3, 3, 2}, {4, 4, 2}, {59, 59, 30}, {60, 60, 30}};
        for (int[] one : ofWet) {
            Run run = one[0] == 60 ? new Run() : new Run("hours(" + (60 - one[0]) + ")");
            run.dues("status(2) " + one[0], "dry() " + one[1], "side(1) 0", "dry() " + one[2], "side(2) 1", "dry() "
                + one[2], "status(2) " + one[0]);
        }
        Run wettest = new Run("spray()", "spray()", "spray()", "spray()");
        wettest.dues("status(2) 99", "dry() 99", "side(1) 0", "dry() 50", "hours(49) 49", "status(2) 1", "dry() 1",
            "hours(1) 50", "status(2) 0", "dry() 1", "side(0) 1", "dry() 1");
    }

    /** sprayings: "n HOURS (0 to 240). -6." */
    private static void sprayingsFor0To240Hours() {
        Run run = new Run();
        run.dues("sprayings(-1) -6", "sprayings(0) 0", "sprayings(1) 0", "sprayings(240) 19", "sprayings(241) -6",
            "sprayings(MIN) -6", "sprayings(MAX) -6", "status(2) 60");
        run.refused(0, 0, 0, 0, 0, 4, 0);
    }

    /**
     * "how often one must spray at least .., if one sprays each time just ahead of an HOUR behind which it would be
     * 0".
     */
    private static void sprayingsJustAhead() {
        // wet 60: behind 59 hours 1; sprayed to 11 it lasts 10 hours each time
        Run shade = new Run();
        shade.dues("sprayings(59) 0", "sprayings(60) 1", "sprayings(69) 1", "sprayings(70) 2", "sprayings(79) 2",
            "sprayings(80) 3");
        // wet 60, 2 an hour: 2 behind 29; sprayed to 12 it lasts 5 hours each time
        Run sun = new Run("side(1)");
        sun.dues("sprayings(29) 0", "sprayings(30) 1", "sprayings(34) 1", "sprayings(35) 2", "sprayings(39) 2",
            "sprayings(40) 3", "sprayings(240) 43");
        // wet 0: sprayed to 10 it lasts 9 hours, or 4, and then 10, or 5
        Run dry = new Run("hours(60)");
        dry.dues("sprayings(0) 0", "sprayings(1) 1", "sprayings(9) 1", "sprayings(10) 2", "sprayings(19) 2",
            "sprayings(20) 3", "side(2) 0", "sprayings(1) 1", "sprayings(4) 1", "sprayings(5) 2", "sprayings(9) 2",
            "sprayings(10) 3", "status(2) 0", "status(5) 1");
        // wet 1 in the sun: 11 to 1 behind 5 hours
        Run one = new Run("hours(59)", "side(1)");
        one.dues("sprayings(1) 1", "sprayings(5) 1", "sprayings(6) 2", "sprayings(10) 2", "sprayings(11) 3");
        Run wettest = new Run("spray()", "spray()", "spray()", "spray()");
        wettest.dues("sprayings(98) 0", "sprayings(99) 1", "sprayings(108) 1", "sprayings(109) 2", "side(1) 0",
            "sprayings(49) 0", "sprayings(50) 1");
    }

    /** age: "n: how many CELLS are LAID", none of them here. */
    private static void ageOfNoCells() {
        Run run = new Run("row(0, 2, 0)").numbers(1, 2, 5, 6);
        run.dues("age(0, 0) 0", "age(1, 0) 0", "age(1, 1) -16", "age(1, 2) -16", "age(1, 3) -15", "age(0, 1) -15");
        run.refused(0, 0, 0, 0, 2, 2, 0);
    }

    private static Run fullBoard() {
        Run run = new Run("stuff(0, 0, 9)", "stuff(3, 1, 0)", "stuff(0, 2, 8)");
        for (int cell = 0; cell < 24; cell++) {
            run.and("lay(" + cell + ", " + cell % 3 + ")");
        }
        return run.and("row(0, 0, 24)");
    }

    /** "FRESH of the LAID CELLS (by numbers)": all 24. */
    private static void ageOfAllCells() {
        Run run = fullBoard();
        for (int i = 0; i < 24; i++) {
            run.and("set(0, " + i + ", " + (i % 3 == 0 ? 6 : i % 3 == 1 ? 9 : 5) + ")");
        }
        // petals of 10 and of 9 hours a step: 6 from hour 30 on, 5 from hour 36 on
        run.dues("age(0, 24) 36", "age(0, 23) -16", "age(0, 25) -15", "set(0, 23, 6) 1", "age(0, 24) -1",
            "set(0, 23, 5) 1", "set(0, 0, 7) 1", "age(0, 24) -1");
    }

    /** "the first HOUR (0 to 240) behind which FRESH .. is just as told". */
    private static void ageIs0To240() {
        Run run = new Run("stuff(2, 0, 9)", "lay(5, 0)");
        for (int i = 0; i < 26; i++) {
            run.and("spray()");
        }
        // 156 hours whole, then a step each 10 hours: 1 from 236 on; 246 would be the first of 0
        run.numbers(0, 2, 9).due("age(0, 1)", 0);
        run.numbers(0, 2, 1).due("age(0, 1)", 236);
        run.numbers(0, 2, 0).due("age(0, 1)", -1);
        run.and("hours(5)").due("age(0, 1)", -1);
        run.and("hours(1)").due("age(0, 1)", 240);
        run.numbers(0, 2, 9).due("age(0, 1)", 0);
        run.numbers(0, 2, 10).due("age(0, 1)", -1);
        run.numbers(0, 2, -1).due("age(0, 1)", -1);
        run.numbers(0, 2, Integer.MIN_VALUE).due("age(0, 1)", -1);
        run.numbers(0, 2, Integer.MAX_VALUE).due("age(0, 1)", -1);
        run.numbers(0, 3, (1L << 32) + 9).due("age(0, 1)", 0);
        run.numbers(0, 3, (-1L << 32) + 9).due("age(0, 1)", 0);
        run.numbers(0, 1, 265).due("age(0, 1)", -1);
    }

    private static void ageIsTheFirst() {
        Run run = new Run("stuff(0, 0, 4)", "lay(5, 0)");
        long[] due = {45, 40, 35, 30, 25, 20, 15, 10, 5, 0};
        for (int fresh = 0; fresh <= 9; fresh++) {
            run.numbers(0, 0, fresh).due("age(0, 1)", due[fresh]);
        }
        run.and("hours(7)").numbers(0, 0, 8).due("age(0, 1)", 0);
        run.numbers(0, 0, 7).due("age(0, 1)", 3);
        run.numbers(0, 0, 9).due("age(0, 1)", -1);
    }

    /** age: "-11; -12; -13; -14 n; -15 fewer elements; -16 another n (counted as -1 to -6)". */
    private static void ageRefusals() {
        Run run = new Run("stuff(0, 0, 0)", "lay(0, 0)", "lay(1, 0)", "show(1, 0)", "row(3, 2, 0)", "row(4, 2, 1)",
            "row(5, 2, 160)")
            .numbers(0, 2, 9, 9);
        run.dues("age(-1, 2) -11", "age(8, 2) -11", "age(1, 2) -12", "age(2, 2) -13", "age(0, -1) -14",
            "age(3, 2) -15", "age(4, 2) -15", "age(0, 2) 0", "age(0, 3) -15", "age(0, 1) -16", "age(0, 0) -16",
            "age(5, 3) -16", "age(5, 160) -16", "age(5, 161) -15", "age(3, 0) -16");
        run.refused(2, 1, 1, 1, 4, 5, 0);
    }

    /** "LACKING: COLOURS (bits) of the drawing that no STUFF has": none, the first, the last, all. */
    private static void lackingBits() {
        Run run = new Run();
        for (int colour = 0; colour < 8; colour++) {
            run.and("cell(" + (23 - colour) + ", " + colour + ")").due("lacking()", (2 << colour) - 1);
        }
        run.and("cell(0, 7)", "cell(1, 0)").due("lacking()", 255);
        for (int colour = 7; colour >= 0; colour--) {
            run.and("stuff(0, " + colour + ", 0)").due("lacking()", (1 << colour) - 1);
        }
        new Run("stuff(0, 3, 0)").due("lacking()", 0);
    }

    /** "WRONG: CELLS (bits)"; "What is LAID where there is no COLOUR in the drawing is WRONG." */
    private static void wrongBits() {
        Run run = new Run("stuff(0, 0, 0)", "stuff(0, 7, 0)");
        run.due("wrong()", 0);
        for (int cell = 0; cell < 24; cell++) {
            run.and("lay(" + cell + ", " + cell % 2 + ")").due("wrong()", (2 << cell) - 1);
        }
        run.due("wrong()", 16777215);
        for (int cell = 23; cell >= 0; cell--) {
            run.and("cell(" + cell + ", " + (cell % 2 == 0 ? 0 : 7) + ")").due("wrong()", (1 << cell) - 1);
        }
        run.dues("cell(0, 7) 1", "cell(23, 0) 1", "wrong() 8388609", "strip(23) 1", "wrong() 1", "cell(0, -1) 0",
            "wrong() 1", "strip(0) 0", "wrong() 0");
    }

    /** judge: "the first n elements (0 to 40) .. -16 n above 40". */
    private static void judgeOf0To40() {
        Run run = new Run("stuff(0, 0, 0)", "row(1, 2, 0)", "row(2, 2, 40)", "row(3, 2, 41)").and("row(0, 1, 160)");
        for (int i = 0; i < 24; i++) {
            run.and("set(0, " + i + ", " + (230 - 10 * i) + ")");
        }
        run.dues("judge(1, 0) -1", "judge(0, 0) -1", "judge(0, 1) -1", "judge(0, 24) -1", "judge(0, 25) 24",
            "judge(0, 40) 24", "judge(0, 41) -16", "judge(0, 160) -16", "judge(0, 161) -15", "judge(2, 40) 1",
            "judge(2, 41) -15", "judge(3, 41) -16", "judge(3, 40) 1", "judge(1, 1) -15", "judge(0, -1) -14",
            "judge(0, MIN) -14", "judge(0, MAX) -15", "status(1) 0");
        run.refused(0, 0, 0, 2, 4, 3, 0);
    }

    /** "the first that may not be, the ones ahead being LAID; NONE". */
    private static void judgeIsTheFirst() {
        Run run = new Run("stuff(0, 0, 0)", "cell(20, 0)", "cell(16, 0)", "cell(12, 0)");
        run.numbers(0, 2, 200, 160, 120, 80, 80).dues("judge(0, 4) -1", "judge(0, 5) 4", "judge(0, 5) 4",
            "may(20) 1");
        run.numbers(0, 2, 160, 200).dues("judge(0, 1) 0", "judge(0, 2) 0", "judge(0, 0) -1");
        run.numbers(0, 2, 200, 120, 999).dues("judge(0, 3) 1", "judge(0, 1) -1");
        run.and("lay(20, 0)").numbers(0, 2, 160, 120, 200).dues("judge(0, 2) -1", "judge(0, 3) 2");
    }

    /**
     * "10 times a CELL and a STUFF": the first and last of both; "Elements of a ROW of longs count by their lowest 32
     * bits".
     */
    private static void judgeNumbers() {
        long[] may = {0, 1, 230, 231};
        long[] not = {-1, -10, 2, 3, 9, 232, 239, 240, 241, 2147483647, -2147483648, -230, 1000000};
        for (long told : may) {
            Run run = new Run("stuff(0, 0, 0)", "stuff(0, 0, 0)");
            run.numbers(0, 2, told).due("judge(0, 1)", -1);
            run.numbers(0, 3, told + (7L << 32)).due("judge(0, 1)", -1);
            run.numbers(0, 3, told + Long.MIN_VALUE).due("judge(0, 1)", -1);
        }
        for (long told : not) {
            Run run = new Run("stuff(0, 0, 0)", "stuff(0, 0, 0)");
            run.numbers(0, 2, told).due("judge(0, 1)", 0);
            run.numbers(0, 3, told).due("judge(0, 1)", 0);
            run.numbers(0, 2, 100, told).due("judge(0, 2)", 1);
        }
        Run none = new Run().numbers(0, 2, 0);
        none.dues("judge(0, 1) 0", "judge(0, 0) -1");
        Run eight = new Run();
        for (int i = 0; i < 8; i++) {
            eight.and("stuff(0, 0, 0)");
        }
        eight.numbers(0, 2, 237, 7, 18).dues("judge(0, 2) -1", "judge(0, 3) 2");
    }

    /** judge: "-11; -12; -13; -14 n; -15 fewer elements; -16 n above 40 (counted as -1 to -6)". */
    private static void judgeRefusals() {
        Run run = new Run("stuff(0, 0, 0)", "show(1, 0)", "row(0, 2, 2)", "row(3, 2, 100)");
        run.dues("judge(-1, 0) -11", "judge(8, 0) -11", "judge(1, 0) -12", "judge(2, 0) -13", "judge(0, -1) -14",
            "judge(0, 3) -15", "judge(0, 41) -15", "judge(3, 41) -16", "judge(3, 101) -15", "judge(0, 2) 1");
        run.refused(2, 1, 1, 1, 3, 1, 0);
    }
}
