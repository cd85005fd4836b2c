/**
 * Part 2 of the terms and promises 22 to 24 and 34, a sentence of the document ahead of each test: the edges of
 * fading.
 */
public final class EdgesOfFadingTest {
    private static final int PETAL = 0;
    private static final int SEED = 1;
    private static final int MOSS = 2;
    private static final int LICHEN = 3;
    private static final int BLUE = 4;
    private static final int FINE = 5;
    private static final int FERN = 6;

    public static void main(String[] args) {
        petal();
        seed();
        moss();
        lichen();
        blue();
        fine();
        fern();
        byAAnd1Cut();
        freshIs0To9();
        hoursInSunAndShadeTogether();
        wasNumbers();
        wasBits();
        freshBehindHours();
        freshOfABareOne();
        hoursSoFarAndStillToCome();
        noMoreSprays();
        beautyNeedsTheColour();
        looksOfAllCells();
        looksBehindHours();
        Check.end();
    }

    /** FRESH of a stuff behind so many hours in the sun, in shade, so many sprays: of 0 to 9 just one. */
    private static void fresh(int kind, int a, int sun, int shade, int sprays, int due) {
        Run run = new Run("stuff(" + kind + ", 0, " + a + ")");
        for (int fresh = 0; fresh <= 9; fresh++) {
            run.due("was(" + sun + ", " + shade + ", " + sprays + ", " + fresh + ")", fresh == due ? 1 : 0);
        }
    }

    /** Hours in shade and FRESH, by turns. */
    private static void inShade(int kind, int a, int sprays, int... due) {
        for (int i = 0; i < due.length; i += 2) {
            fresh(kind, a, 0, due[i], sprays, due[i + 1]);
        }
    }

    /** "PETAL: h." */
    private static void petal() {
        inShade(PETAL, 0, 0, 0, 9, 1, 8, 2, 7, 8, 1, 9, 0, 10, 0, 240, 0);
        inShade(PETAL, 0, 20, 0, 9, 1, 8, 9, 0);
        fresh(PETAL, 0, 1, 0, 0, 8);
        fresh(PETAL, 0, 4, 4, 0, 1);
        fresh(PETAL, 0, 240, 240, 20, 0);
    }

    /** "SEED: what h is above 12." */
    private static void seed() {
        inShade(SEED, 0, 0, 0, 9, 11, 9, 12, 9, 13, 8, 20, 1, 21, 0, 22, 0, 240, 0);
        fresh(SEED, 0, 12, 0, 0, 9);
        fresh(SEED, 0, 6, 7, 0, 8);
        fresh(SEED, 9, 0, 21, 20, 9);
        fresh(SEED, 9, 0, 22, 20, 8);
        fresh(SEED, 9, 0, 101, 0, 1);
        fresh(SEED, 9, 0, 102, 0, 0);
    }

    /** "MOSS: what h is above 6 times its SPRAYS." */
    private static void moss() {
        inShade(MOSS, 0, 0, 0, 9, 1, 8, 9, 0);
        inShade(MOSS, 0, 1, 0, 9, 5, 9, 6, 9, 7, 8, 14, 1, 15, 0);
        inShade(MOSS, 0, 2, 12, 9, 13, 8, 21, 0);
        inShade(MOSS, 0, 20, 0, 9, 119, 9, 120, 9, 121, 8, 128, 1, 129, 0, 240, 0);
        fresh(MOSS, 0, 3, 3, 1, 9);
        fresh(MOSS, 0, 4, 3, 1, 8);
        fresh(MOSS, 9, 60, 69, 20, 9);
        fresh(MOSS, 9, 60, 70, 20, 8);
        fresh(MOSS, 9, 240, 240, 20, 0);
    }

    /** "LICHEN: 0." */
    private static void lichen() {
        for (int a = 0; a <= 9; a += 9) {
            inShade(LICHEN, a, 0, 0, 9, 12, 9, 13, 9, 240, 9);
            fresh(LICHEN, a, 240, 240, 0, 9);
            fresh(LICHEN, a, 240, 240, 20, 9);
        }
    }

    /** "BLUE: h and its HOURS in the SUN once more." */
    private static void blue() {
        inShade(BLUE, 0, 0, 0, 9, 1, 8, 8, 1, 9, 0);
        int[][] due = {{1, 0, 7}, {4, 0, 1}, {5, 0, 0}, {4, 1, 0}, {3, 2, 1}, {3, 3, 0}, {0, 9, 0}, {240, 240, 0}};
        for (int[] one : due) {
            fresh(BLUE, 0, one[0], one[1], 0, one[2]);
            fresh(BLUE, 0, one[0], one[1], 20, one[2]);
        }
        fresh(BLUE, 9, 4, 1, 0, 9);
        fresh(BLUE, 9, 5, 0, 0, 8);
        fresh(BLUE, 9, 44, 1, 0, 1);
        fresh(BLUE, 9, 45, 0, 0, 0);
    }

    /** "FINE: as BLUE"; "FINE: less its SPRAYS besides, 0 at least". */
    private static void fine() {
        int[][] sprays = {{0, 9}, {1, 8}, {8, 1}, {9, 0}, {10, 0}, {20, 0}};
        for (int[] one : sprays) {
            fresh(FINE, 0, 0, 0, one[0], one[1]);
            fresh(FINE, 9, 0, 9, one[0], one[1]);
        }
        int[][] due = {{1, 0, 0, 7}, {1, 0, 1, 6}, {1, 0, 6, 1}, {1, 0, 7, 0}, {1, 0, 8, 0}, {4, 0, 1, 0}, {4, 0, 0,
            1},
            {5, 0, 0, 0}, {5, 0, 20, 0}, {240, 240, 20, 0}, {0, 8, 0, 1}, {0, 8, 1, 0}, {0, 9, 1, 0}};
        for (int[] one : due) {
            fresh(FINE, 0, one[0], one[1], one[2], one[3]);
        }
        fresh(FINE, 9, 5, 0, 7, 1);
        fresh(FINE, 9, 5, 0, 8, 0);
    }

    /** "FERN: as MOSS"; "FERN: 0, if h is above 48". */
    private static void fern() {
        inShade(FERN, 0, 0, 0, 9, 1, 8, 9, 0);
        inShade(FERN, 0, 1, 6, 9, 7, 8);
        inShade(FERN, 0, 8, 47, 9, 48, 9, 49, 0, 50, 0, 240, 0);
        inShade(FERN, 0, 20, 48, 9, 49, 0);
        inShade(FERN, 9, 0, 48, 5, 49, 0);
        fresh(FERN, 9, 24, 24, 20, 9);
        fresh(FERN, 9, 25, 24, 20, 0);
        fresh(FERN, 9, 48, 0, 20, 9);
        fresh(FERN, 9, 49, 0, 20, 0);
        fresh(MOSS, 9, 25, 24, 20, 9);
    }

    /** "9 less BROWN by (a and 1, cut)": just ahead of a step, at it, and at the last one, for each a. */
    private static void byAAnd1Cut() {
        for (int a = 0; a <= 9; a++) {
            int part = a + 1;
            inShade(PETAL, a, 0, 0, 9, part - 1, 9, part, 8, 2 * part - 1, 8, 2 * part, 7, 9 * part - 1, 1, 9 * part,
                0);
        }
    }

    /** "0 at least": however brown. */
    private static void freshIs0To9() {
        int[] never = {PETAL, SEED, MOSS, BLUE, FINE, FERN};
        for (int kind : never) {
            fresh(kind, 0, 240, 240, 0, 0);
            fresh(kind, 9, 240, 240, 0, 0);
            fresh(kind, 9, 0, 0, 0, 9);
        }
    }

    /** "h both HOURS together". */
    private static void hoursInSunAndShadeTogether() {
        for (int sun = 0; sun <= 8; sun++) {
            fresh(PETAL, 0, sun, 8 - sun, 0, 1);
            fresh(PETAL, 0, sun, 9 - sun, 0, 0);
            fresh(SEED, 0, sun, 12 - sun, 0, 9);
            fresh(SEED, 0, sun, 13 - sun, 0, 8);
        }
    }

    /** was: "-6 HOURS not 0 to 240 each, SPRAYS not 0 to 20, FRESH not 0 to 9." */
    private static void wasNumbers() {
        Run run = new Run("stuff(3, 0, 0)");
        run.dues("was(-1, 0, 0, 9) -6", "was(0, 0, 0, 9) 1", "was(240, 0, 0, 9) 1", "was(241, 0, 0, 9) -6",
            "was(0, -1, 0, 9) -6", "was(0, 240, 0, 9) 1", "was(0, 241, 0, 9) -6", "was(0, 0, -1, 9) -6",
            "was(0, 0, 20, 9) 1", "was(0, 0, 21, 9) -6", "was(0, 0, 0, -1) -6", "was(0, 0, 0, 0) 0",
            "was(0, 0, 0, 10) -6", "was(240, 240, 20, 9) 1", "was(MIN, 0, 0, 9) -6", "was(MAX, 0, 0, 9) -6",
            "was(0, MIN, 0, 9) -6", "was(0, MAX, 0, 9) -6", "was(0, 0, MIN, 9) -6", "was(0, 0, MAX, 9) -6",
            "was(0, 0, 0, MIN) -6", "was(0, 0, 0, MAX) -6");
        run.refused(0, 0, 0, 0, 0, 16, 0);
    }

    /** was: "STUFFS (bits)": none, the first, the last, all. */
    private static void wasBits() {
        Run run = new Run();
        run.due("was(0, 0, 0, 9)", 0);
        for (int stuff = 0; stuff < 8; stuff++) {
            run.and("stuff(0, 0, " + stuff + ")").due("was(0, 0, 0, 9)", (2 << stuff) - 1);
        }
        run.dues("was(0, 0, 0, 8) 0", "was(1, 0, 0, 8) 1", "was(0, 7, 0, 9) 128", "was(0, 7, 0, 8) 120",
            "was(4, 3, 0, 2) 1");
    }

    /** fresh, beauty: "behind n HOURS (0 to 240) .. -6". */
    private static void freshBehindHours() {
        Run run = new Run("stuff(2, 4, 9)", "cell(6, 4)", "lay(6, 0)");
        String[] calls = {"fresh(6, ", "beauty(6, "};
        for (String call : calls) {
            run.dues(call + "-1) -6", call + "0) 9", call + "9) 9", call + "10) 8", call + "89) 1", call + "90) 0",
                call + "240) 0", call + "241) -6", call + "MIN) -6", call + "MAX) -6");
        }
        run.refused(0, 0, 0, 0, 0, 8, 0);
        Run lichen = new Run("stuff(3, 4, 0)", "cell(6, 4)", "lay(6, 0)");
        lichen.dues("fresh(6, 240) 9", "fresh(6, 241) -6", "beauty(6, 240) 9", "beauty(6, 241) -6", "looks(240) 9",
            "looks(241) -6");
    }

    /** fresh: "0 of a BARE one. -1; -6." */
    private static void freshOfABareOne() {
        Run run = new Run("stuff(3, 0, 0)", "cell(0, 0)");
        run.dues("fresh(0, 0) 0", "fresh(0, 240) 0", "beauty(0, 0) 0", "fresh(0, 241) -6", "beauty(0, -1) -6",
            "fresh(24, 0) -1", "lay(0, 0) 1", "fresh(0, 0) 9", "strip(0) 0", "fresh(0, 0) 0", "beauty(0, 240) 0");
        run.refused(1, 0, 0, 0, 0, 2, 0);
    }

    /** "(in thought: behind n HOURS, SIDE as it is ..)": what has been counts, too. */
    private static void hoursSoFarAndStillToCome() {
        Run run = new Run("stuff(0, 0, 0)", "stuff(4, 0, 0)", "lay(0, 0)", "lay(1, 1)", "lay(2, 1)", "hours(5)");
        run.dues("fresh(0, 0) 4", "fresh(0, 3) 1", "fresh(0, 4) 0", "fresh(0, 240) 0", "fresh(1, 0) 4",
            "fresh(1, 4) 0", "side(1) 0", "fresh(1, 0) 4", "fresh(1, 1) 2", "fresh(1, 2) 0", "fresh(2, 1) 3",
            "fresh(2, 3) 1", "fresh(0, 3) 1", "side(2) 1", "fresh(1, 3) 1", "fresh(2, 1) 2", "fresh(2, 2) 0",
            "hours(1) 6", "fresh(1, 0) 3", "fresh(2, 0) 2", "side(0) 2", "fresh(2, 1) 1", "fresh(2, 2) 0");
        Run old = new Run("stuff(6, 0, 9)", "lay(0, 0)", "hours(48)");
        old.dues("fresh(0, 0) 5", "fresh(0, 1) 0", "hours(1) 49", "fresh(0, 0) 0");
        Run ancient = new Run("stuff(0, 0, 9)", "stuff(3, 0, 0)", "lay(0, 0)", "lay(1, 1)", "hours(240)",
            "hours(240)");
        ancient.dues("fresh(0, 240) 0", "fresh(1, 240) 9");
    }

    /** "no more SPRAYS": those that were still count. */
    private static void noMoreSprays() {
        Run run = new Run("stuff(2, 0, 0)", "stuff(5, 0, 9)", "lay(0, 0)", "lay(1, 1)", "spray()");
        run.dues("fresh(0, 6) 9", "fresh(0, 7) 8", "fresh(1, 0) 8", "fresh(1, 9) 8", "fresh(1, 10) 7", "spray() 80",
            "fresh(0, 12) 9", "fresh(0, 13) 8", "fresh(1, 0) 7");
        for (int i = 0; i < 10; i++) {
            run.and("spray()");
        }
        run.dues("fresh(0, 72) 9", "fresh(0, 73) 8", "fresh(1, 0) 0", "fresh(1, 240) 0");
    }

    /** "BEAUTY of a CELL: FRESH, if its STUFF has the COLOUR of the drawing there; else 0 (BARE ones, too)." */
    private static void beautyNeedsTheColour() {
        int[] colours = {0, 7};
        for (int colour : colours) {
            Run run = new Run("stuff(0, " + colour + ", 0)", "lay(5, 0)");
            run.due("beauty(5, 1)", 0);
            for (int drawn = 0; drawn < 8; drawn++) {
                run.and("cell(5, " + drawn + ")").due("beauty(5, 1)", drawn == colour ? 8 : 0);
                run.dues("fresh(5, 1) 8", "looks(1) " + (drawn == colour ? 8 : 0));
            }
            run.and("cell(5, -1)").due("beauty(5, 1)", 0);
            run.and("cell(5, " + colour + ")", "strip(5)").due("beauty(5, 0)", 0);
        }
    }

    /** "LOOKS: BEAUTY of all CELLS together": none, one, all. */
    private static void looksOfAllCells() {
        Run run = new Run("stuff(3, 0, 0)", "stuff(3, 1, 0)");
        run.due("looks(0)", 0);
        for (int cell = 0; cell < 24; cell++) {
            run.and("lay(" + cell + ", 0)", "cell(" + cell + ", 0)");
            run.due("looks(240)", 9 * (cell + 1));
        }
        run.dues("all(0, 240) 52056", "worst(0, 240) 0", "cell(0, 1) 1", "looks(0) 207", "cell(0, -1) 0",
            "looks(0) 207", "strip(23) 0", "looks(0) 198");
    }

    /** looks: "LOOKS behind n HOURS. -6." */
    private static void looksBehindHours() {
        Run run = new Run("stuff(0, 0, 0)", "stuff(0, 0, 1)", "cell(0, 0)", "cell(23, 0)", "lay(0, 0)", "lay(23, 1)");
        run.dues("looks(-1) -6", "looks(0) 18", "looks(1) 17", "looks(2) 15", "looks(9) 5", "looks(17) 1",
            "looks(18) 0", "looks(240) 0", "looks(241) -6", "looks(MIN) -6", "looks(MAX) -6");
        run.refused(0, 0, 0, 0, 0, 4, 0);
    }
}
