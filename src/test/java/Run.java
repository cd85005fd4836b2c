/**
 * A new object and the calls made on it, told as texts like "row(0, 2, 160)" (MIN and MAX stand for the least and
 * the most that the argument's type holds). The document promises the first 512 calls of an object: no more are made.
 */
final class Run {
    private static final int MOST_CALLS = 512;

    private final PetalPictures object = new PetalPictures();
    private final StringBuilder made = new StringBuilder();
    private int calls;

    /** The first calls, none of which may be refused. */
    Run(String... given) {
        and(given);
    }

    /** Further calls, none of which may be refused. */
    Run and(String... given) {
        for (String told : given) {
            long got = call(told);
            if (got < 0 && !told.startsWith("seed") && !told.startsWith("act")) {
                Check.fail(told + " answered " + got + ", but should be done, behind" + made);
            }
        }
        return this;
    }

    void due(String told, long want) {
        String before = made.toString();
        long got = call(told);
        if (got != want) {
            Check.fail(told + " answered " + got + ", due is " + want + ", behind" + before);
        }
    }

    /** Each row is a call and the answer that is due, a blank between them. */
    void dues(String... rows) {
        for (String row : rows) {
            int end = row.lastIndexOf(' ');
            due(row.substring(0, end), Long.parseLong(row.substring(end + 1)));
        }
    }

    long call(String told) {
        int open = told.indexOf('(');
        String name = told.substring(0, open);
        String inside = told.substring(open + 1, told.lastIndexOf(')'));
        String[] texts = inside.isEmpty() ? new String[0] : inside.split(", ");
        long[] args = new long[texts.length];
        for (int i = 0; i < args.length; i++) {
            args[i] = numberOf(texts[i], Calls.isLong(name, i));
        }
        calls++;
        if (calls > MOST_CALLS) {
            throw new IllegalStateException("more calls than are promised, behind" + made);
        }
        long got = Calls.answer(object, name, args);
        note(told);
        return got;
    }

    /** What is only asked for is not told again where a test fails. */
    private void note(String told) {
        if (!told.startsWith("status") && !told.startsWith("cellOf") && !told.startsWith("element")) {
            made.append(' ').append(told);
        }
    }

    private static long numberOf(String text, boolean isLong) {
        switch (text) {
            case "MIN": return isLong ? Long.MIN_VALUE : Integer.MIN_VALUE;
            case "MAX": return isLong ? Long.MAX_VALUE : Integer.MAX_VALUE;
            default: return Long.parseLong(text);
        }
    }

    /** Shelf s holds a row of bytes, one for each letter. */
    Run text(int s, String letters) {
        and("row(" + s + ", 0, " + letters.length() + ")");
        for (int i = 0; i < letters.length(); i++) {
            and("set(" + s + ", " + i + ", " + (int) letters.charAt(i) + ")");
        }
        return this;
    }

    /** Shelf s holds a row of a sort. */
    Run numbers(int s, int sort, long... numbers) {
        and("row(" + s + ", " + sort + ", " + numbers.length + ")");
        for (int i = 0; i < numbers.length; i++) {
            and("set(" + s + ", " + i + ", " + numbers[i] + ")");
        }
        return this;
    }

    /** How often each refusal was counted, -1 to -7. */
    void refused(int... counts) {
        for (int i = 0; i < counts.length; i++) {
            due("status(" + (11 + i) + ")", counts[i]);
        }
    }

    /** All that can be asked of the object but the refusals; then all of it once more as the image has it. */
    String all() {
        StringBuilder all = new StringBuilder();
        board(all);
        for (int s = 0; s < 8; s++) {
            ask(all, "holds(" + s + ")");
            for (int i = 0; i < 5; i++) {
                ask(all, "element(" + s + ", " + i + ")");
            }
        }
        ask(all, "element(6, 159)");
        for (int i = 0; i < 9; i++) {
            ask(all, "trace(" + i + ")");
        }
        ask(all, "status(7)");
        ask(all, "fault()");
        ask(all, "restore()");
        board(all);
        for (int s = 0; s < 8; s++) {
            ask(all, "holds(" + s + ")");
        }
        return all.toString();
    }

    private void board(StringBuilder all) {
        for (int what = 0; what < 7; what++) {
            ask(all, "status(" + what + ")");
        }
        long stuffs = call("status(0)");
        for (int stuff = 0; stuff < stuffs && stuff < 8; stuff++) {
            for (int what = 0; what < 3; what++) {
                ask(all, "stuffOf(" + stuff + ", " + what + ")");
            }
        }
        for (int cell = 0; cell < 24; cell++) {
            boolean laid = ask(all, "cellOf(" + cell + ", 1)") != -1;
            ask(all, "cellOf(" + cell + ", 0)");
            for (int what = 2; what < (laid ? 6 : 3); what++) {
                ask(all, "cellOf(" + cell + ", " + what + ")");
            }
        }
    }

    private long ask(StringBuilder all, String told) {
        long got = call(told);
        all.append(told).append(' ').append(got).append('\n');
        return got;
    }
}
