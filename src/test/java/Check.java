/** What the tests share: counting answers that are not as due, and putting letters or numbers into rows. */
final class Check {
    private static int wrong = 0;

    private Check() {
    }

    static void due(String call, long got, long want) {
        if (got != want) {
            wrong++;
            System.out.println(call + " answered " + got + ", due is " + want);
        }
    }

    static void fail(String what) {
        wrong++;
        System.out.println(what);
    }

    static void end() {
        if (wrong != 0) {
            System.out.println(wrong + " answers are not as due");
            System.exit(1);
        }
    }

    static void putText(PetalPictures x, int s, String text) {
        due("row for a text", x.row(s, 0, text.length()), 1);
        for (int i = 0; i < text.length(); i++) {
            due("set for a text", x.set(s, i, text.charAt(i)), 1);
        }
    }

    static void putInts(PetalPictures x, int s, int... numbers) {
        due("row for numbers", x.row(s, 2, numbers.length), 1);
        for (int i = 0; i < numbers.length; i++) {
            due("set for numbers", x.set(s, i, numbers[i]), 1);
        }
    }

    /** A new object to which a text is told. */
    static PetalPictures told(String text) {
        PetalPictures x = new PetalPictures();
        tell(x, text);
        return x;
    }

    static void tell(PetalPictures x, String text) {
        putText(x, 7, text);
        due("village of \"" + text + "\"", x.village(7), text.split(";").length);
        due("fault of \"" + text + "\"", x.fault(), -1);
        x.show(7, -1);
    }

    static void faulty(PetalPictures x, String text, int place) {
        putText(x, 7, text);
        due("village of \"" + text + "\"", x.village(7), -6);
        due("fault of \"" + text + "\"", x.fault(), place);
        x.show(7, -1);
    }

    /** The refusals counted so far, -1 to -7. */
    static void refusals(PetalPictures x, int... counts) {
        for (int i = 0; i < counts.length; i++) {
            due("status(" + (11 + i) + ")", x.status(11 + i), counts[i]);
        }
    }
}
