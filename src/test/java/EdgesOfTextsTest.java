/** Promises 14 and 15, a sentence of the document ahead of each test: the edges of the texts of villages. */
public final class EdgesOfTextsTest {
    /** No number here begins with a digit that could not stand alone. */
    private static final String LONG_TEXT =
        "stuff 6 7 9;cell 23 7;plan 0 0;lay 20 0;side 2;spray;hours 99;stuff 0 0 00;plan 12 1;lay 00 01;hours 1";

    public static void main(String[] args) {
        noLetters();
        fullRows();
        manyItems();
        everyBeginning();
        everySignReplaced();
        everySignPutBetween();
        everySignLeftOut();
        upperCase();
        wordsHalfWritten();
        oneBlank();
        nothingBehindAnItem();
        oneOrTwoDigits();
        numbersOfStuff();
        numbersOfCell();
        numbersOfPlan();
        numbersOfLay();
        numbersOfSide();
        numbersOfHours();
        stuffsThatAreToldAhead();
        roomForAWord();
        roomIsAskedForWholeLetters();
        roomAsTold();
        layingsThatMayNotBe();
        layingsOverWhatIsTold();
        toldInTruth();
        toldOverWhatThereIs();
        allOrNothing();
        lowest32BitsOfLongs();
        otherNumbersAreNoLetters();
        faultOfTheLatest();
        Check.end();
    }

    private static Run telling(Run run, String text, int items) {
        run.text(5, text).dues("village(5) " + items, "fault() -1");
        return run;
    }

    private static Run faulty(Run run, String text, int fault) {
        run.text(5, text).dues("village(5) -6", "fault() " + fault);
        return run;
    }

    /** Each on a new object: a text and its fault, or how many items below 0. */
    private static void each(String[] given, String[] texts, int... faults) {
        for (int i = 0; i < texts.length; i++) {
            if (faults[i] < 0) {
                telling(new Run(given), texts[i], -faults[i]);
            } else {
                faulty(new Run(given), texts[i], faults[i]);
            }
        }
    }

    /** "(the number of elements, if it ends too early)": a text that is empty. */
    private static void noLetters() {
        for (int sort = 0; sort < 4; sort++) {
            Run run = new Run("row(5, " + sort + ", 0)");
            run.dues("village(5) -6", "fault() 0");
            run.refused(0, 0, 0, 0, 0, 1, 0);
        }
    }

    /** Rows of 160 elements: 23 items of six letters, one too many signs, and a fault at the last element. */
    private static void fullRows() {
        StringBuilder text = new StringBuilder();
        for (int i = 0; i < 22; i++) {
            text.append("side ").append(i % 3).append(';');
        }
        telling(new Run(), text + "side 2", 23).due("status(3)", 2);
        faulty(new Run(), text + "side 3", 159).due("status(3)", 0);
        faulty(new Run(), text + "side  ", 159).due("status(3)", 0);
        faulty(new Run(), text + "spray;", 160).due("status(2)", 60);
        faulty(new Run(), text + "sprays", 159).due("status(2)", 60);
        faulty(new Run(), text + "hours ", 160).due("status(4)", 0);
        faulty(new Run(), text + "lay 20", 160).due("status(1)", 0);
        faulty(new Run(), text + "cell 2", 160);
    }

    /** "ITEM, then any number of times ; and ITEM": as many as there is place for. */
    private static void manyItems() {
        StringBuilder text = new StringBuilder("spray");
        Run one = telling(new Run(), text.toString(), 1);
        one.due("status(2)", 70);
        for (int i = 2; i <= 26; i++) {
            text.append(";spray");
        }
        telling(new Run(), text.toString(), 26).due("status(2)", 99);
        faulty(new Run(), text + ";", 156);
        faulty(new Run(), text + ";spra", 160);
        String six = "side 0;side 0;side 0;side 0;side 0;";
        Run full = telling(new Run("stuff(0, 0, 0)", "lay(0, 0)"), six + text.substring(0, 125), 26);
        full.due("cellOf(0, 5)", 21);
    }

    /** The last number of an item may be told by its first digit alone. */
    private static boolean isEndOfItem(String text, int end) {
        boolean atNext = end == text.length() || text.charAt(end) == ';';
        String begun = text.substring(0, end);
        return atNext || begun.endsWith("hours 9") || begun.endsWith("stuff 0 0 0") || begun.endsWith("lay 00 0");
    }

    /** "the number of elements, if it ends too early": each beginning of a text is a text itself, or too short. */
    private static void everyBeginning() {
        for (int end = 0; end <= LONG_TEXT.length(); end++) {
            String text = LONG_TEXT.substring(0, end);
            if (end > 0 && isEndOfItem(LONG_TEXT, end)) {
                telling(new Run(), text, text.split(";").length);
            } else {
                faulty(new Run(), text, end);
            }
        }
    }

    /** "the first place at which an element can't stand": whatever stood there, a ? can't. */
    private static void everySignReplaced() {
        for (int place = 0; place < LONG_TEXT.length(); place++) {
            String text = LONG_TEXT.substring(0, place) + '?' + LONG_TEXT.substring(place + 1);
            faulty(new Run(), text, place).dues("status(0) 0", "status(4) 0");
        }
    }

    private static void everySignPutBetween() {
        for (int place = 0; place <= LONG_TEXT.length(); place++) {
            String text = LONG_TEXT.substring(0, place) + '?' + LONG_TEXT.substring(place);
            faulty(new Run(), text, place).dues("status(0) 0", "status(4) 0");
        }
    }

    /**
     * A letter, a blank or a ; left out: what stands in its place can't, or, of two like ones, what stands behind.
     */
    private static void everySignLeftOut() {
        for (int place = 1; place < LONG_TEXT.length(); place++) {
            char sign = LONG_TEXT.charAt(place);
            char ahead = LONG_TEXT.charAt(place - 1);
            boolean beginsAWord = Character.isLetter(sign) && !Character.isLetter(ahead);
            boolean digitsMeet = sign == ' ' && Character.isDigit(ahead);
            if (Character.isDigit(sign) || beginsAWord || digitsMeet) {
                continue;
            }
            String text = LONG_TEXT.substring(0, place) + LONG_TEXT.substring(place + 1);
            int fault = place;
            while (fault < text.length() && text.charAt(fault) == sign) {
                fault++;
            }
            faulty(new Run(), text, fault);
        }
    }

    private static void upperCase() {
        for (int place = 0; place < LONG_TEXT.length(); place++) {
            char sign = LONG_TEXT.charAt(place);
            if (Character.isLetter(sign)) {
                String text = LONG_TEXT.substring(0, place) + (char) (sign - 32) + LONG_TEXT.substring(place + 1);
                faulty(new Run(), text, place);
            }
        }
    }

    /**
     * "the first element that is not as it is the FAULT, or the number of elements", of words that begin alike, too.
     */
    private static void wordsHalfWritten() {
        String[] words = {"stuff", "cell", "plan", "lay", "side", "spray", "hours"};
        for (String word : words) {
            for (int end = 0; end < word.length(); end++) {
                faulty(new Run(), word.substring(0, end), end);
                faulty(new Run(), word.substring(0, end) + ' ', end);
                faulty(new Run(), word.substring(0, end) + ";spray", end);
                faulty(new Run(), "spray;" + word.substring(0, end), 6 + end);
                faulty(new Run(), "spray;" + word.substring(0, end) + "z", 6 + end);
            }
        }
        each(new String[0], new String[] {"x", "sl", "sp", "si", "st", "spl", "sid;", "stu", "stuf", "stufg", "sprai",
            "sida", "cel1", "plat", "lat", "houra", "pla", "hourse", "sprayy", "layy", "0", ";", " "},
            0, 1, 2, 2, 2, 2, 3, 3, 4, 4, 4, 3, 3, 3, 2, 4, 3, 5, 5, 3, 0, 0, 0);
    }

    /** "One blank between words and NUMBERS". */
    private static void oneBlank() {
        String[] given = {"stuff(0, 0, 0)"};
        each(given, new String[] {"side1", "side  1", "side 1 ", " side 1", "side 1;side2", "side 1; side 2",
            "side 1 ;side 2", "cell 1  1", "cell 11", "cell 1;1", "hours\t1", "spray 1", "spray ", "side 1\n"},
            4, 5, 6, 0, 11, 7, 6, 7, 7, 6, 5, 5, 5, 6);
    }

    /** "ITEM, then any number of times ; and ITEM". */
    private static void nothingBehindAnItem() {
        each(new String[] {"stuff(0, 0, 0)"}, new String[] {"spray;", "spray;;spray", "spray,spray", "sprayspray",
            "spray;side 1;", ";spray", "side 1side 1", "cell 1 1;", "cell 1 1 1", "plan 1 0 0", "lay 1 0 0",
            "hours 1 1", "stuff 0 0 0 0"},
            6, 6, 5, 5, 13, 0, 6, 9, 8, 8, 7, 7, 11);
    }

    /** "NUMBERS (1 or 2 digits)"; "Numbers of a text may begin with 0." */
    private static void oneOrTwoDigits() {
        each(new String[] {"stuff(0, 0, 0)"}, new String[] {"side 2", "side 02", "side 002", "side ", "side x",
            "side -1", "side +1", "cell 01 07", "cell 001 1", "cell 1 007", "cell 00 00", "hours 10", "hours 010",
            "hours 100", "plan 00 00", "plan 0 000", "lay 00 00", "lay 000 0", "stuff 00 00 00", "stuff 000 0 0",
            "stuff 0 000 0", "stuff 0 0 000", "side 1/", "side 1:", "side /", "side :", "side 0/", "cell 1: 0"},
            -1, -1, 7, 5, 5, 5, 5, -1, 7, 9, -1, -1, 8, 8, -1, 9, -1, 6, -1, 8, 10, 12, 6, 6, 5, 5, 6, 6);
    }

    /** "of a NUMBER that may not be the place of its first digit"; "stuff K C A (KIND, COLOUR, a)". */
    private static void numbersOfStuff() {
        each(new String[0], new String[] {"stuff 0 0 0", "stuff 6 0 0", "stuff 06 0 0", "stuff 7 0 0", "stuff 07 0 0",
            "stuff 10 0 0", "stuff 60 0 0", "stuff 99 0 0", "stuff 0 7 0", "stuff 0 07 0", "stuff 0 8 0",
            "stuff 0 08 0", "stuff 00 8 0", "stuff 0 10 0", "stuff 0 70 0", "stuff 0 0 9", "stuff 0 0 09",
            "stuff 0 0 10", "stuff 0 0 90", "stuff 00 00 10", "stuff 7", "stuff 7 8 10", "stuff 0 8", "stuff 0 8 10",
            "stuff 0 0 99;"},
            -1, -1, -1, 6, 6, 6, 6, 6, -1, -1, 8, 8, 9, 8, 8, -1, -1, 10, 10, 12, 6, 6, 8, 8, 10);
    }

    /** "cell X C (a CELL's COLOUR)". */
    private static void numbersOfCell() {
        each(new String[0], new String[] {"cell 0 0", "cell 23 7", "cell 24 0", "cell 30 0", "cell 99 9", "cell 0 7",
            "cell 0 07", "cell 0 8", "cell 0 08", "cell 0 10", "cell 23 8", "cell 24", "cell 240 0", "cell 230 0",
            "cell 0 -1"},
            -1, -1, 5, 5, 5, -1, -1, 7, 7, 7, 8, 5, 5, 7, 7);
    }

    /** "plan X S". */
    private static void numbersOfPlan() {
        String[] eight = new String[8];
        for (int i = 0; i < 8; i++) {
            eight[i] = "stuff(0, 0, 0)";
        }
        each(eight, new String[] {"plan 0 0", "plan 23 7", "plan 23 07", "plan 0 8", "plan 0 08", "plan 0 10",
            "plan 24 0", "plan 24 8"},
            -1, -1, -1, 7, 7, 7, 5, 5);
        each(new String[] {"stuff(0, 0, 0)"}, new String[] {"plan 0 0", "plan 0 1", "plan 0 00", "plan 0 01"}, -1, 7,
            -1, 7);
        each(new String[0], new String[] {"plan 0 0", "plan 0 ", "plan 0", "plan 23 00"}, 7, 7, 6, 8);
    }

    /** "lay X S". */
    private static void numbersOfLay() {
        String[] eight = new String[8];
        for (int i = 0; i < 8; i++) {
            eight[i] = "stuff(0, 0, 0)";
        }
        each(eight, new String[] {"lay 0 0", "lay 23 7", "lay 23 07", "lay 0 8", "lay 0 08", "lay 0 10", "lay 24 0",
            "lay 24 8", "lay 99"},
            -1, -1, -1, 6, 6, 6, 4, 4, 4);
        each(new String[0], new String[] {"lay 0 0", "lay 0 ", "lay 0", "lay 23 00"}, 6, 6, 5, 7);
    }

    /** "side N". */
    private static void numbersOfSide() {
        each(new String[0], new String[] {"side 0", "side 1", "side 2", "side 02", "side 3", "side 03", "side 10",
            "side 20", "side 3;"},
            -1, -1, -1, -1, 5, 5, 5, 5, 5);
    }

    /** "hours N (1 to 99, in truth)". */
    private static void numbersOfHours() {
        each(new String[0], new String[] {"hours 0", "hours 00", "hours 0;spray", "hours 1", "hours 01", "hours 99",
            "hours 100", "hours 000"},
            6, 6, 6, -1, -1, -1, 8, 6);
        telling(new Run(), "hours 99", 1).dues("status(4) 99", "status(5) 40", "status(2) 0");
        telling(new Run(), "hours 01", 1).dues("status(4) 1", "status(5) 0", "status(2) 59");
    }

    /** "All is told over what there is": stuffs that stand ahead in the text, too. */
    private static void stuffsThatAreToldAhead() {
        each(new String[0], new String[] {"stuff 0 0 0;plan 0 0", "stuff 0 0 0;plan 0 1", "plan 0 0;stuff 0 0 0",
            "stuff 0 0 0;lay 0 0", "lay 0 0;stuff 0 0 0", "stuff 0 0 0;lay 0 1"},
            -2, 19, 7, -2, 6, 18);
        each(new String[] {"stuff(0, 0, 0)"}, new String[] {"stuff 0 0 0;plan 0 1;lay 0 1", "plan 0 1;stuff 0 0 0"},
            -3, 7);
    }

    private static Run withStuffs(int n) {
        Run run = new Run();
        for (int i = 0; i < n; i++) {
            run.and("stuff(0, 0, 0)");
        }
        return run;
    }

    /** "what there is no room for can't stand: its word". */
    private static void roomForAWord() {
        telling(withStuffs(7), "stuff 0 0 0", 1).dues("status(0) 8", "stuff(0, 0, 0) -7");
        faulty(withStuffs(8), "stuff 0 0 0", 0).dues("status(0) 8", "status(17) 0", "status(16) 1");
        faulty(withStuffs(8), "spray;stuff 0 0 0", 6).due("status(2)", 60);
        faulty(withStuffs(7), "stuff 0 0 0;stuff 0 0 0", 12).due("status(0)", 7);
        StringBuilder eight = new StringBuilder("stuff 0 0 0");
        for (int i = 1; i < 8; i++) {
            eight.append(";stuff ").append(i % 7).append(" 0 0");
        }
        telling(new Run(), eight.toString(), 8).due("status(0)", 8);
        faulty(new Run(), eight + ";stuff 0 0 0", 96).due("status(0)", 0);
        faulty(withStuffs(1), eight.toString(), 84).due("status(0)", 1);
    }

    /** "Whether there is room for a word is asked when its letters stand whole: until then the first element ..". */
    private static void roomIsAskedForWholeLetters() {
        faulty(withStuffs(8), "s", 1);
        faulty(withStuffs(8), "stuf", 4);
        faulty(withStuffs(8), "stufx", 4);
        faulty(withStuffs(8), "stux 0 0 0", 3);
        faulty(withStuffs(8), "stuff", 0);
        faulty(withStuffs(8), "stuff ", 0);
        faulty(withStuffs(8), "stuffx", 0);
        faulty(withStuffs(8), "stuff 9 9 99", 0);
        faulty(withStuffs(8), "spray;stuf", 10);
        faulty(withStuffs(8), "spray;stuff", 6);
        telling(withStuffs(8), "spray;side 1", 2);
    }

    /** Room is as the text has told so far; a fault ahead of the word comes first. */
    private static void roomAsTold() {
        faulty(withStuffs(7), "stuff 0 0 10;stuff 0 0 0", 10);
        faulty(withStuffs(8), "side 3;stuff 0 0 0", 5);
        faulty(withStuffs(7), "stuff 0 0 0;plan 0 7;plan 0 8", 28).due("status(0)", 7);
    }

    /** "lay X S (in truth, if it may be)"; "(.. a lay that may not be: X)". */
    private static void layingsThatMayNotBe() {
        String[] given = {"stuff(0, 0, 0)", "cell(20, 0)", "lay(23, 0)"};
        each(given, new String[] {"lay 16 0", "lay 16 00", "lay 16", "lay 16 1", "lay 16x", "lay 23 0", "lay 20 1",
            "lay 20 0", "lay 19 0", "lay 12 0", "spray;lay 23 0", "lay 20", "lay 20 "},
            4, 4, 4, 4, 4, 4, 7, -1, -1, -1, 10, 6, 7);
        // the digit 2 could stand alone here, but 24 is no cell; 2 may not be laid any more, 20 may
        each(new String[] {"stuff(0, 0, 0)", "lay(2, 0)"}, new String[] {"lay 24 0", "lay 2 0", "lay 02 0",
            "lay 20 0"}, 4, 4, 4, -1);
    }

    /** "MAY be LAID", over what the text has told ahead. */
    private static void layingsOverWhatIsTold() {
        String[] given = {"stuff(0, 0, 0)"};
        each(given, new String[] {"lay 20 0;lay 20 0", "cell 20 0;lay 16 0", "cell 20 0;lay 20 0;lay 16 0",
            "lay 16 0;cell 20 0", "cell 20 0;cell 20 1;lay 16 0", "cell 23 0;lay 19 0", "cell 22 0;lay 19 0"},
            13, 14, -3, -2, 24, 14, -2);
    }

    /** "lay .. (in truth ..); spray (in truth); hours N (.. in truth)": each at its place in the text. */
    private static void toldInTruth() {
        Run run = telling(new Run(),
            "stuff 0 0 0;spray;lay 20 0;hours 2;spray;side 1;hours 3;lay 21 0;spray;hours 1;side 2;lay 22 0", 12);
        run.dues("cellOf(20, 3) 4", "cellOf(20, 4) 2", "cellOf(20, 5) 2", "cellOf(21, 3) 1", "cellOf(21, 4) 0",
            "cellOf(21, 5) 1", "cellOf(22, 3) 0", "cellOf(22, 4) 0", "cellOf(22, 5) 0", "status(2) 80", "status(3) 2",
            "status(4) 6", "status(5) 0");
    }

    private static void toldOverWhatThereIs() {
        Run run = new Run("stuff(4, 5, 6)", "cell(1, 1)", "cell(2, 2)", "plan(1, 0)", "lay(1, 0)", "hours(1)",
            "side(2)", "spray()");
        telling(run, "cell 2 3;hours 2;stuff 1 2 3;plan 2 1", 4);
        run.dues("status(0) 2", "stuffOf(0, 0) 4", "stuffOf(0, 1) 5", "stuffOf(0, 2) 6", "stuffOf(1, 0) 1",
            "stuffOf(1, 1) 2", "stuffOf(1, 2) 3", "cellOf(1, 0) 1", "cellOf(2, 0) 3", "cellOf(1, 2) 0",
            "cellOf(2, 2) 1", "cellOf(1, 1) 0", "cellOf(1, 4) 3", "cellOf(1, 5) 1", "status(3) 2", "status(4) 3",
            "status(2) 65");
    }

    /** "or nothing": behind each kind of item there is a fault, and nothing of it is told. */
    private static void allOrNothing() {
        String[] given = {"stuff(0, 0, 0)", "cell(1, 1)", "plan(1, 0)", "lay(1, 0)", "hours(1)", "side(2)", "spray()",
            "seed(7)", "image()"};
        String before = new Run(given).and("row(5, 0, 1)", "show(5, -1)").all();
        String[] items = {"stuff 1 1 1", "cell 1 2", "plan 1 0;plan 2 0", "lay 2 0", "side 1", "spray", "hours 9"};
        for (String item : items) {
            Run run = faulty(new Run(given), item + ";x", item.length() + 1);
            telling(run, "side 2", 1).and("show(5, -1)");
            if (!run.all().equals(before)) {
                Check.fail("something is told of " + item);
            }
        }
    }

    /** "Elements of a ROW of longs count by their lowest 32 bits wherever a ROW tells something." */
    private static void lowest32BitsOfLongs() {
        String text = "hours 12";
        long[] high = {1L << 32, -1L << 32, Long.MIN_VALUE, 0x7FFFFFFFL << 32};
        for (long above : high) {
            long[] letters = new long[text.length()];
            for (int i = 0; i < letters.length; i++) {
                letters[i] = text.charAt(i) + above;
            }
            Run run = new Run().numbers(0, 3, letters);
            run.dues("village(0) 1", "fault() -1", "status(4) 12");
        }
    }

    /** Letters that differ above their lowest bits, or below 0, are others. */
    private static void otherNumbersAreNoLetters() {
        String text = "hours 12";
        long[] more = {256, 65536, 1L << 31, 128, -256, -65536};
        for (int place = 0; place < text.length(); place++) {
            for (long by : more) {
                long[] letters = new long[text.length()];
                for (int i = 0; i < letters.length; i++) {
                    letters[i] = text.charAt(i) + (i == place ? by : 0);
                }
                int sort = by == 1L << 31 || Math.abs(by) == 65536 ? 2 : 1;
                Run run = new Run().numbers(0, sort, letters);
                run.dues("village(0) -6", "fault() " + place, "status(4) 0");
            }
            for (long letter : new long[] {0, -1, 127, -128, 32767, 2147483647}) {
                long[] letters = new long[text.length()];
                for (int i = 0; i < letters.length; i++) {
                    letters[i] = i == place ? letter : text.charAt(i);
                }
                Run run = new Run().numbers(0, 2, letters);
                run.dues("village(0) -6", "fault() " + place);
            }
        }
    }

    /** fault: "The FAULT of the latest village() that came to a ROW; NONE: there was none, or none yet." */
    private static void faultOfTheLatest() {
        Run run = new Run("stuff(0, 0, 0)", "show(1, 0)", "image()");
        run.dues("fault() -1", "village(0) -3", "fault() -1", "village(1) -2", "village(8) -1", "fault() -1");
        faulty(run, "spray;x", 6);
        run.dues("village(0) -3", "fault() 6", "village(1) -2", "fault() 6", "village(-1) -1", "village(8) -1",
            "fault() 6", "restore() 1", "fault() 6", "image() 1", "fault() 6", "row(5, 0, 0) 1", "fault() 6",
            "village(5) -6", "fault() 0");
        telling(run, "spray", 1);
        run.dues("village(0) -3", "fault() -1");
        faulty(run, "y", 0);
        faulty(run, "sy", 1);
        run.refused(3, 2, 3, 0, 0, 4, 0);
    }
}
