/**
 * Promises 16 to 21, 39 and 40, a sentence of the document ahead of each test: the edges of what happens in truth.
 */
public final class EdgesOfTruthTest {
    public static void main(String[] args) {
        mayOverWhatIsBelow();
        mayInTheLowestRow();
        mayOfAFullBoard();
        layUpToAFullBoard();
        layBegins();
        stripDownToABareBoard();
        stripLeavesWhatLiesAbove();
        sprayIs99AtMost();
        sprayOnLaidCells();
        sidesAre0To2();
        sunnyColumns();
        hoursAre1To240();
        wetIs0AtLeast();
        cracksWhenWetIs0Then();
        wetOfOddNumbers();
        hoursAddUp();
        seedIsAnyInt();
        drawsWrapAround();
        daysAre1To20();
        sideAndBeetleOfADay();
        beetleOnABareCell();
        sprayOfADayBelow30();
        cracksOfTheDays();
        Check.end();
    }

    /** "MAY be LAID: a BARE CELL, if the one below it is LAID, or has no COLOUR, or there is none." */
    private static void mayOverWhatIsBelow() {
        for (int cell = 0; cell < 20; cell++) {
            int below = cell + 4;
            Run run = new Run("stuff(0, 0, 0)");
            run.due("may(" + cell + ")", 1);
            run.and("cell(" + cell + ", 0)").due("may(" + cell + ")", 1);
            run.and("cell(" + below + ", 7)").due("may(" + cell + ")", 0);
            run.due("lay(" + cell + ", 0)", -6);
            run.and("cell(" + below + ", 0)").due("may(" + cell + ")", 0);
            run.and("cell(" + below + ", -1)").due("may(" + cell + ")", 1);
            run.and("cell(" + below + ", 0)", "lay(" + below + ", 0)").due("may(" + cell + ")", 1);
            run.and("cell(" + below + ", -1)").due("may(" + cell + ")", 1);
            run.and("cell(" + below + ", 3)", "strip(" + below + ")").due("may(" + cell + ")", 0);
            run.and("lay(" + below + ", 0)", "lay(" + cell + ", 0)").due("may(" + cell + ")", 0);
        }
    }

    /** "or there is none" below: the row 5. */
    private static void mayInTheLowestRow() {
        for (int cell = 20; cell < 24; cell++) {
            Run run = new Run("stuff(0, 0, 0)");
            for (int other = 0; other < 24; other++) {
                run.and("cell(" + other + ", 0)");
            }
            run.due("may(" + cell + ")", 1);
            run.due("may(" + (cell - 4) + ")", 0);
            run.due("lay(" + cell + ", 0)", 1);
            run.due("may(" + cell + ")", 0);
            run.due("may(" + (cell - 4) + ")", 1);
            run.due("may(" + (cell - 8) + ")", 0);
        }
    }

    private static Run full(String... further) {
        Run run = new Run("stuff(0, 0, 9)", "stuff(3, 1, 0)");
        for (int cell = 0; cell < 24; cell++) {
            run.and("lay(" + cell + ", " + cell % 2 + ")");
        }
        return run.and(further);
    }

    private static void mayOfAFullBoard() {
        Run run = full();
        for (int cell = 0; cell < 24; cell++) {
            run.due("may(" + cell + ")", 0);
            run.due("lay(" + cell + ", 0)", -6);
        }
        run.due("status(1)", 24);
        run.refused(0, 0, 0, 0, 0, 24, 0);
    }

    /** lay: "how many CELLS are LAID. -1; -6 it MAY not be." */
    private static void layUpToAFullBoard() {
        Run run = new Run("stuff(0, 0, 0)", "stuff(0, 0, 0)");
        for (int cell = 0; cell < 24; cell++) {
            run.due("lay(" + cell + ", " + cell % 2 + ")", cell + 1);
        }
        for (int cell = 0; cell < 24; cell++) {
            run.due("cellOf(" + cell + ", 1)", cell % 2);
        }
        run.dues("lay(0, 2) -1", "lay(0, -1) -1", "lay(-1, 0) -1", "lay(24, 0) -1", "lay(0, 0) -6", "lay(23, 1) -6");
        run.refused(4, 0, 0, 0, 0, 2, 0);
        new Run().dues("lay(0, 0) -1", "lay(0, -1) -1", "status(1) 0");
    }

    /** A cell that is laid has lain for no hours, and had no sprays, whatever was ahead. */
    private static void layBegins() {
        Run run = new Run("stuff(0, 0, 0)", "hours(5)", "spray()", "lay(0, 0)");
        run.dues("cellOf(0, 3) 0", "cellOf(0, 4) 0", "cellOf(0, 5) 0", "side(1) 0", "hours(1) 6", "side(2) 1",
            "hours(2) 8", "spray() 69", "cellOf(0, 3) 1", "cellOf(0, 4) 2", "cellOf(0, 5) 1", "strip(0) 0",
            "lay(0, 0) 1", "cellOf(0, 3) 0", "cellOf(0, 4) 0", "cellOf(0, 5) 0");
    }

    /** strip: "A CELL is BARE in truth: the STUFF that was there. -1; -6 it is BARE." */
    private static void stripDownToABareBoard() {
        Run run = full();
        for (int cell = 23; cell >= 0; cell--) {
            run.due("strip(" + cell + ")", cell % 2);
            run.due("status(1)", cell);
        }
        run.dues("strip(0) -6", "strip(23) -6", "strip(-1) -1", "strip(24) -1", "status(1) 0");
        run.refused(2, 0, 0, 0, 0, 2, 0);
    }

    /** strip: "(What lies above stays.)" */
    private static void stripLeavesWhatLiesAbove() {
        Run run = new Run("stuff(0, 2, 0)", "cell(20, 2)", "cell(16, 2)", "lay(20, 0)", "lay(16, 0)", "lay(12, 0)",
            "hours(3)", "strip(20)");
        run.dues("status(1) 2", "cellOf(16, 1) 0", "cellOf(16, 4) 3", "cellOf(12, 1) 0", "fresh(16, 0) 6",
            "may(20) 1", "strip(16) 0", "may(16) 0", "cellOf(12, 1) 0", "cellOf(20, 0) 2");
    }

    /** "A SPRAY: WET is 10 more (99 at most)". */
    private static void sprayIs99AtMost() {
        Run run = new Run();
        run.dues("spray() 70", "spray() 80", "spray() 90", "spray() 99", "spray() 99", "status(2) 99", "hours(10) 10",
            "status(2) 89", "spray() 99", "hours(11) 21", "status(2) 88", "spray() 98", "hours(1) 22", "spray() 99",
            "hours(9) 31", "spray() 99");
        Run dry = new Run("hours(100)");
        dry.dues("status(2) 0", "spray() 10", "spray() 20");
    }

    /** "each LAID CELL has one more". */
    private static void sprayOnLaidCells() {
        Run run = new Run("stuff(0, 0, 0)", "lay(0, 0)", "spray()", "lay(23, 0)", "spray()", "strip(0)", "spray()");
        run.dues("cellOf(0, 5) 0", "cellOf(23, 5) 2", "cellOf(1, 5) 0", "lay(0, 0) 2", "spray() 99", "cellOf(0, 5) 1",
            "cellOf(23, 5) 3");
        Run full = full("spray()");
        for (int cell = 0; cell < 24; cell++) {
            full.due("cellOf(" + cell + ", 5)", 1);
        }
    }

    /** "SIDE: .. 0 none (at first), 1 .., 2 .."; side: "what it was. -6." */
    private static void sidesAre0To2() {
        Run run = new Run();
        run.dues("status(3) 0", "side(-1) -6", "side(3) -6", "side(MIN) -6", "side(MAX) -6", "status(3) 0",
            "side(2) 0", "status(3) 2", "side(3) -6", "status(3) 2", "side(1) 2", "side(0) 1", "side(0) 0",
            "status(3) 0");
        run.refused(0, 0, 0, 0, 0, 5, 0);
    }

    /** "0 none (at first), 1 columns 0 and 1, 2 columns 2 and 3": in each row. */
    private static void sunnyColumns() {
        for (int side = 0; side < 3; side++) {
            Run run = full("side(" + side + ")", "hours(7)");
            for (int cell = 0; cell < 24; cell++) {
                int half = cell % 4 / 2 + 1;
                run.due("cellOf(" + cell + ", 3)", side == half ? 7 : 0);
                run.due("cellOf(" + cell + ", 4)", side == half ? 0 : 7);
            }
        }
    }

    /** hours: "n HOURS (1 to 240) in truth: HOUR. -6." */
    private static void hoursAre1To240() {
        Run run = new Run("stuff(0, 0, 0)", "lay(3, 0)");
        run.dues("hours(0) -6", "hours(-1) -6", "hours(241) -6", "hours(MIN) -6", "hours(MAX) -6", "status(4) 0",
            "status(2) 60", "cellOf(3, 4) 0", "hours(1) 1", "hours(240) 241", "cellOf(3, 4) 241", "status(4) 241");
        run.refused(0, 0, 0, 0, 0, 5, 0);
    }

    /** "WET is 1 less, 2 if SIDE isn't 0 (0 at least)". */
    private static void wetIs0AtLeast() {
        new Run("hours(59)").dues("status(2) 1", "hours(1) 60", "status(2) 0", "hours(1) 61", "status(2) 0");
        new Run("hours(60)").due("status(2)", 0);
        new Run("hours(61)").due("status(2)", 0);
        new Run("hours(240)").due("status(2)", 0);
        for (int side = 1; side < 3; side++) {
            new Run("side(" + side + ")", "hours(1)").due("status(2)", 58);
            new Run("side(" + side + ")", "hours(29)").dues("status(2) 2", "hours(1) 30", "status(2) 0",
                "hours(1) 31", "status(2) 0");
        }
    }

    /** "if it is 0 then, CRACKS are 1 more": not behind the hour that leaves 1, but behind the one that leaves 0. */
    private static void cracksWhenWetIs0Then() {
        new Run("hours(59)").dues("status(5) 0", "hours(1) 60", "status(5) 1", "hours(1) 61", "status(5) 2",
            "spray() 10", "hours(9) 70", "status(5) 2", "hours(1) 71", "status(5) 3");
        new Run("hours(240)").due("status(5)", 181);
        for (int side = 1; side < 3; side++) {
            new Run("side(" + side + ")", "hours(29)").dues("status(5) 0", "hours(1) 30", "status(5) 1",
                "hours(240) 270", "status(5) 241");
            new Run("side(" + side + ")", "hours(240)").due("status(5)", 211);
        }
    }

    /** 1 less 2 is 0, too. */
    private static void wetOfOddNumbers() {
        Run run = new Run("hours(57)", "side(1)");
        run.dues("status(2) 3", "hours(1) 58", "status(2) 1", "status(5) 0", "hours(1) 59", "status(2) 0",
            "status(5) 1");
        run.dues("spray() 10", "side(0) 1", "hours(9) 68", "side(2) 0", "status(2) 1", "hours(2) 70", "status(2) 0",
            "status(5) 3");
    }

    private static void hoursAddUp() {
        Run run = new Run("stuff(3, 0, 0)", "cell(0, 0)", "lay(0, 0)", "side(1)");
        for (int i = 1; i <= 400; i++) {
            run.due("hours(240)", 240 * i);
        }
        run.dues("cellOf(0, 3) 96000", "cellOf(0, 4) 0", "status(5) 95971", "fresh(0, 240) 9", "looks(240) 9",
            "all(0, 240) 2169");
    }

    /** seed: "SEED becomes v: what it was (nothing is refused)." */
    private static void seedIsAnyInt() {
        Run run = new Run();
        run.dues("seed(MIN) 1", "status(6) -2147483648", "seed(MAX) -2147483648", "status(6) 2147483647",
            "seed(0) 2147483647", "seed(-1) 0", "seed(1) -1", "status(6) 1");
        run.refused(0, 0, 0, 0, 0, 0, 0);
    }

    /** The seed behind one draw, as bits 0 to 31 of a long. */
    private static long behindADraw(long seed) {
        return seed * 1103515245L + 12345L & 0xFFFFFFFFL;
    }

    private static int drawBelow(long seedBehind, int n) {
        return (int) ((seedBehind >> 16) % n);
    }

    /** The first seed from one on with which SIDE and the beetle's cell are as wanted. */
    private static int seedFor(int from, int side, int cell) {
        for (int seed = from; ; seed++) {
            long first = behindADraw(seed);
            if (drawBelow(first, 3) == side && drawBelow(behindADraw(first), 24) == cell) {
                return seed;
            }
        }
    }

    /** "SEED becomes SEED times 1103515245, and 12345 (an int, wrapping); its upper 16 bits, no sign, modulo n". */
    private static void drawsWrapAround() {
        int[] seeds = {0, 1, -1, 2, Integer.MAX_VALUE, Integer.MIN_VALUE, 65536, -65536, 1103515245, 123456789};
        for (int seed : seeds) {
            Run run = full("spray()");
            run.call("seed(" + seed + ")");
            long first = behindADraw(seed);
            long second = behindADraw(first);
            run.and("days(1)");
            run.due("status(6)", (int) second);
            run.due("status(3)", drawBelow(first, 3));
            run.due("cellOf(" + drawBelow(second, 24) + ", 1)", -1);
            run.due("status(1)", 23);
        }
        // both draws have their highest bit set here: with a sign they would be below 0
        int seed = 0;
        while (behindADraw(seed) >> 31 == 0 || behindADraw(behindADraw(seed)) >> 31 == 0) {
            seed++;
        }
        Run high = full("spray()");
        high.call("seed(" + seed + ")");
        high.and("days(1)").due("status(3)", drawBelow(behindADraw(seed), 3));
        high.due("cellOf(" + drawBelow(behindADraw(behindADraw(seed)), 24) + ", 1)", -1);
    }

    /** days: "n DAYS (1 to 20) by draws in truth .. -6." */
    private static void daysAre1To20() {
        Run run = new Run();
        run.dues("days(0) -6", "days(-1) -6", "days(21) -6", "days(MIN) -6", "days(MAX) -6", "status(4) 0",
            "status(6) 1", "status(3) 0");
        run.refused(0, 0, 0, 0, 0, 5, 0);
        run.and("days(1)").due("status(4)", 24);
        run.and("days(20)").due("status(4)", 504);
        long seed = 1;
        for (int draw = 0; draw < 42; draw++) {
            seed = behindADraw(seed);
        }
        run.due("status(6)", (int) seed);
    }

    /**
     * "SIDE a DRAW below 3; 24 HOURS; .. then a beetle: a CELL, a DRAW below 24, is BARE": the first and the last of
     * each.
     */
    private static void sideAndBeetleOfADay() {
        int[] cells = {0, 1, 22, 23};
        for (int side = 0; side < 3; side++) {
            for (int cell : cells) {
                Run run = full("side(" + (side + 1) % 3 + ")");
                run.call("seed(" + seedFor(-3000, side, cell) + ")");
                run.and("days(1)").due("status(3)", side);
                run.dues("status(4) 24", "status(1) 23");
                run.due("status(2)", side == 0 ? 36 : 22);
                for (int other = 0; other < 24; other++) {
                    boolean inSun = side == other % 4 / 2 + 1;
                    run.due("cellOf(" + other + ", 1)", other == cell ? -1 : other % 2);
                    run.due("cellOf(" + other + ", 3)", other != cell && inSun ? 24 : 0);
                    run.due("cellOf(" + other + ", 4)", other != cell && !inSun ? 24 : 0);
                    run.due("cellOf(" + other + ", 5)", other != cell && side != 0 ? 1 : 0);
                }
            }
        }
    }

    /** "(nothing, if it is)" bare. */
    private static void beetleOnABareCell() {
        Run run = new Run("stuff(0, 0, 0)", "lay(0, 0)", "cell(23, 4)", "plan(23, 0)");
        run.call("seed(" + seedFor(0, 0, 23) + ")");
        run.dues("days(1) 0", "status(1) 1", "cellOf(0, 1) 0", "cellOf(23, 0) 4", "cellOf(23, 2) 0");
        run.call("seed(" + seedFor(0, 0, 0) + ")");
        run.dues("days(1) 0", "status(1) 0");
        run.due("days(20)", cracksOf20Days(run));
    }

    /** By the draws that come next. */
    private static int cracksOf20Days(Run run) {
        long wet = run.call("status(2)");
        long seed = run.call("status(6)") & 0xFFFFFFFFL;
        int cracks = 0;
        for (int day = 0; day < 20; day++) {
            seed = behindADraw(seed);
            int less = drawBelow(seed, 3) == 0 ? 1 : 2;
            for (int hour = 0; hour < 24; hour++) {
                wet = Math.max(0, wet - less);
                cracks += wet == 0 ? 1 : 0;
            }
            wet += wet < 30 ? 10 : 0;
            seed = behindADraw(seed);
        }
        return cracks;
    }

    /** "a SPRAY, if WET is below 30" behind the hours. */
    private static void sprayOfADayBelow30() {
        String seed = "seed(" + seedFor(0, 0, 5) + ")";
        int[][] wets = {{55, 31, 0}, {54, 30, 0}, {53, 39, 1}, {25, 11, 1}, {24, 10, 1}, {23, 10, 1}};
        for (int[] wet : wets) {
            Run run = new Run("stuff(0, 0, 0)", "lay(0, 0)", "hours(" + (60 - wet[0]) + ")");
            run.call(seed);
            run.and("days(1)").due("status(2)", wet[1]);
            run.due("cellOf(0, 5)", wet[2]);
        }
        String sunny = "seed(" + seedFor(0, 1, 5) + ")";
        int[][] wetsInSun = {{79, 31}, {78, 30}, {77, 39}, {49, 11}, {48, 10}, {47, 10}};
        for (int[] wet : wetsInSun) {
            Run run = new Run("spray()", "spray()", "hours(" + (80 - wet[0]) + ")");
            run.call(sunny);
            run.and("days(1)").due("status(2)", wet[1]);
        }
    }

    /** days: "CRACKS in them": not those from ahead. */
    private static void cracksOfTheDays() {
        String seed = "seed(" + seedFor(0, 0, 5) + ")";
        Run run = new Run("hours(100)");
        run.call(seed);
        run.dues("status(5) 41", "days(1) 24", "status(5) 65");
        int[][] wets = {{25, 0}, {24, 1}, {23, 2}, {1, 24}};
        for (int[] wet : wets) {
            Run one = new Run("hours(" + (60 - wet[0]) + ")");
            one.call(seed);
            one.due("days(1)", wet[1]);
            one.due("status(5)", wet[1]);
        }
        new Run().due("days(20)", cracksOf20Days(new Run()));
    }
}
