/** Promises 1 to 8: a new object, row, set, copy, element, show, holds, says. */
public final class ShelfTest {
    private static final int MIN = Integer.MIN_VALUE;
    private static final int MAX = Integer.MAX_VALUE;

    public static void main(String[] args) {
        newObject();
        rows();
        sortsKeepLowestBits();
        copies();
        copiesOverThemselves();
        shows();
        says();
        Check.end();
    }

    private static void newObject() {
        PetalPictures x = new PetalPictures();
        int[] status = {0, 0, 60, 0, 0, 0, 1, 0, -1, -1, -1, 0, 0, 0, 0, 0, 0, 0, -1};
        for (int what = 0; what < status.length; what++) {
            Check.due("new status(" + what + ")", x.status(what), status[what]);
        }
        for (int s = 0; s < 8; s++) {
            Check.due("new holds", x.holds(s), -1);
        }
        for (int c = 0; c < 24; c++) {
            for (int what = 0; what < 6; what++) {
                Check.due("new cellOf(" + c + ", " + what + ")", x.cellOf(c, what), what < 3 ? -1 : 0);
            }
            Check.due("new may(" + c + ")", x.may(c), 1);
        }
        Check.due("new next", x.next(), -1);
        Check.due("new lacking", x.lacking(), 0);
        Check.due("new wrong", x.wrong(), 0);
        Check.due("new fault", x.fault(), -1);
        Check.due("new trace", x.trace(0), -1);
        Check.due("new looks", x.looks(0), 0);
        Check.due("new restore", x.restore(), -6);
    }

    private static void rows() {
        PetalPictures x = new PetalPictures();
        Check.due("row", x.row(0, 0, 0), 1);
        Check.due("row of 160", x.row(7, 3, 160), 1);
        Check.due("holds bytes", x.holds(0), 100);
        Check.due("holds longs", x.holds(7), 103);
        Check.due("no shelf", x.row(8, 9, -1), -1);
        Check.due("no shelf", x.row(-1, 0, 0), -1);
        Check.due("no shelf", x.row(MIN, 0, 0), -1);
        Check.due("no shelf", x.row(MAX, 0, 0), -1);
        Check.due("below before wrong", x.row(0, 4, -1), -4);
        Check.due("below", x.row(0, 0, MIN), -4);
        Check.due("wrong before room", x.row(0, 4, 161), -6);
        Check.due("wrong sort", x.row(0, -1, 1), -6);
        Check.due("room", x.row(0, 1, 161), -7);
        Check.due("room", x.row(0, 1, MAX), -7);
        Check.due("what is refused changes nothing", x.holds(0), 100);
        Check.refusals(x, 4, 0, 0, 2, 0, 2, 2);

        Check.due("set last", x.set(7, 159, 5), 1);
        Check.due("set behind the end", x.set(7, 160, 5), -5);
        Check.due("set below 0", x.set(7, -1, 5), -5);
        Check.due("set in an empty row", x.set(0, 0, 5), -5);
        Check.due("set in nothing", x.set(1, -1, 5), -3);
        Check.due("set on no shelf", x.set(-1, 0, 5), -1);
        Check.due("element", x.element(7, 159), 5);
        Check.due("element behind the end", x.element(7, 160), 0);
        Check.due("element below 0", x.element(7, -1), 0);
        Check.due("element of nothing", x.element(1, 0), 0);
        Check.due("element of no shelf", x.element(8, 0), 0);
        Check.due("element of no shelf", x.element(MIN, MAX), 0);
        Check.due("a new row has zeros", x.row(7, 3, 160), 1);
        Check.due("a new row has zeros", x.element(7, 159), 0);
        Check.refusals(x, 5, 0, 1, 2, 3, 2, 2);

        x.stuff(0, 0, 0);
        Check.due("show", x.show(1, 0), 1);
        Check.due("set in a stuff", x.set(1, -1, 5), -2);
        Check.due("element of a stuff", x.element(1, 0), 0);
        Check.due("a row takes the place of a stuff", x.row(1, 1, 3), 1);
        Check.due("a row takes the place of a stuff", x.holds(1), 101);
        Check.due("set where a stuff was", x.set(1, 2, 9), 1);
        x.row(1, 1, 1);
        Check.due("a shorter row has no more", x.element(1, 2), 0);
        Check.due("a shorter row has no more", x.set(1, 2, 9), -5);
        x.row(1, 1, 3);
        Check.due("what was there is gone", x.element(1, 2), 0);
        for (int i = 0; i < 3; i++) {
            x.row(1, 1, 3);
            x.set(1, i, 9);
            x.show(1, 0);
            Check.due("element where a row was, of a stuff", x.element(1, i), 0);
            x.row(1, 1, 3);
            x.set(1, i, 9);
            x.show(1, -1);
            Check.due("element where a row was, of nothing", x.element(1, i), 0);
        }
    }

    private static void sortsKeepLowestBits() {
        long v = 0x1234_5678_9ABC_DEF0L;
        long[] due = {(byte) 0xF0, (short) 0xDEF0, 0x9ABCDEF0, v};
        PetalPictures x = new PetalPictures();
        for (int sort = 0; sort < 4; sort++) {
            x.row(sort, sort, 2);
            x.set(sort, 1, v);
            Check.due("sort " + sort, x.element(sort, 1), due[sort]);
            Check.due("sort " + sort, x.element(sort, 0), 0);
            x.set(sort, 0, 127);
            Check.due("sort " + sort, x.element(sort, 0), 127);
        }
        x.set(0, 0, 128);
        Check.due("a byte", x.element(0, 0), -128);
        x.set(1, 0, 32768);
        Check.due("a short", x.element(1, 0), -32768);
        x.set(2, 0, 1L << 31);
        Check.due("an int", x.element(2, 0), MIN);
        x.set(3, 0, Long.MIN_VALUE);
        Check.due("a long", x.element(3, 0), Long.MIN_VALUE);
    }

    private static void copies() {
        PetalPictures x = new PetalPictures();
        Check.putInts(x, 0, 1, 2, 3, 4);
        Check.putInts(x, 1, 9, 9, 9);
        Check.due("copy", x.copy(0, 1, 2, 1, 2), 1);
        Check.due("copied", x.element(1, 0), 9);
        Check.due("copied", x.element(1, 1), 3);
        Check.due("copied", x.element(1, 2), 4);
        Check.due("copy of none", x.copy(0, 1, 4, 3, 0), 1);
        Check.due("copy of none from behind", x.copy(0, 1, 5, 0, 0), -5);
        Check.due("copy of none to behind", x.copy(0, 1, 0, 4, 0), -5);
        Check.due("end not there", x.copy(0, 1, 3, 0, 2), -5);
        Check.due("end not there", x.copy(0, 1, 0, 2, 2), -5);
        Check.due("begin not there", x.copy(0, 1, -1, 0, 1), -5);
        Check.due("begin not there", x.copy(0, 1, 0, -1, 1), -5);
        Check.due("far ends", x.copy(0, 1, MAX, 0, MAX), -5);
        Check.due("far ends", x.copy(0, 1, 0, MAX, MAX), -5);
        Check.due("below before beyond", x.copy(0, 1, -1, -1, -1), -4);
        Check.due("below", x.copy(0, 1, 0, 0, MIN), -4);
        Check.due("nothing to", x.copy(0, 2, -1, 0, -1), -3);
        Check.due("nothing from", x.copy(2, 0, 0, 0, 1), -3);
        Check.due("nothing both", x.copy(2, 3, 0, 0, 0), -3);
        x.row(3, 3, 4);
        Check.due("two sorts", x.copy(0, 3, 0, 0, -1), -2);
        x.stuff(0, 0, 0);
        x.show(4, 0);
        Check.due("to a stuff", x.copy(0, 4, 0, 0, 1), -2);
        Check.due("from a stuff", x.copy(4, 0, 0, 0, 1), -2);
        Check.due("other before nothing", x.copy(2, 4, 0, 0, 1), -2);
        Check.due("other before nothing", x.copy(4, 2, 0, 0, 1), -2);
        Check.due("no shelf from", x.copy(-1, 4, 0, 0, 1), -1);
        Check.due("no shelf to", x.copy(4, 8, 0, 0, 1), -1);
        Check.due("unchanged", x.element(1, 0), 9);
        Check.refusals(x, 2, 5, 3, 2, 8, 0, 0);
    }

    private static void copiesOverThemselves() {
        PetalPictures x = new PetalPictures();
        Check.putInts(x, 0, 1, 2, 3, 4, 5);
        Check.due("upward", x.copy(0, 0, 0, 1, 4), 1);
        int[] up = {1, 1, 2, 3, 4};
        for (int i = 0; i < 5; i++) {
            Check.due("as they were ahead", x.element(0, i), up[i]);
        }
        Check.due("downward", x.copy(0, 0, 2, 0, 3), 1);
        int[] down = {2, 3, 4, 3, 4};
        for (int i = 0; i < 5; i++) {
            Check.due("as they were ahead", x.element(0, i), down[i]);
        }
    }

    private static void shows() {
        PetalPictures x = new PetalPictures();
        Check.due("no such stuff yet", x.show(0, 0), -1);
        x.stuff(0, 3, 4);
        x.stuff(1, 3, 4);
        Check.due("show", x.show(0, 1), 1);
        Check.due("holds a stuff", x.holds(0), 1);
        Check.due("no such stuff", x.show(0, 2), -1);
        Check.due("no such stuff", x.show(0, -2), -1);
        Check.due("no shelf", x.show(8, 0), -1);
        Check.due("no shelf", x.show(-1, -1), -1);
        Check.due("unchanged", x.holds(0), 1);
        Check.due("show nothing", x.show(0, -1), 0);
        Check.due("holds nothing", x.holds(0), -1);
        Check.due("holds of no shelf", x.holds(8), -1);
        Check.due("holds of no shelf", x.holds(-1), -1);
        x.row(1, 2, 3);
        Check.due("nothing for a row", x.show(1, -1), 0);
        Check.due("holds nothing", x.holds(1), -1);
        Check.due("set where a row was", x.set(1, 0, 1), -3);
        Check.due("element where a row was", x.element(1, 0), 0);
        Check.refusals(x, 5, 0, 1, 0, 0, 0, 0);
    }

    private static void says() {
        // each kind once, stuff number = kind, colours 7 downward, a upward
        PetalPictures x = Check.told("stuff 0 7 0;stuff 1 6 1;stuff 2 5 2;stuff 3 4 3;stuff 4 3 8;stuff 5 2 9;stuff 6 1 6");
        Check.tell(x, "lay 20 1;lay 21 1;lay 22 3;lay 23 6;plan 0 2;plan 1 2;plan 2 2;plan 3 6;plan 20 6;plan 5 1");
        for (int stuff = 0; stuff < 7; stuff++) {
            x.show(stuff, stuff);
        }
        int no = -2;
        int[][] due = {
            {7, no, no, no, no, no, no},
            {6, 2, no, no, no, no, no},
            {5, no, 3, no, no, no, no},
            {4, 1, no, 9, no, no, no},
            {3, no, no, no, 4, no, no},     // brown 48 by 9: 5, so 9 - 5
            {2, no, no, no, 3, 3, no},      // brown 48 by 10: 4, and 2 sprays
            {1, no, 2, no, no, no, 6},
        };
        for (int stuff = 0; stuff < 7; stuff++) {
            for (int kind = 0; kind < 7; kind++) {
                Check.due("says(" + stuff + ", " + kind + ")", x.says(stuff, kind), due[stuff][kind]);
            }
        }
        Check.refusals(x, 0, 33, 0);
        Check.due("no kind", x.says(0, 7), -1);
        Check.due("no kind", x.says(7, -1), -1);
        Check.due("no shelf", x.says(8, 0), -1);
        Check.due("no shelf", x.says(-1, 0), -1);
        Check.due("nothing", x.says(7, 0), -3);
        x.row(7, 0, 0);
        Check.due("a row", x.says(7, 0), -2);
        Check.refusals(x, 4, 34, 1);
        // brown 48 by 7 is 6; an hour in the shade more would make it 7, a spray more would tell on the fine one
        PetalPictures y = Check.told("stuff 4 0 6;stuff 5 0 6");
        y.show(0, 0);
        y.show(1, 1);
        Check.due("none in the shade", y.says(0, 4), 3);
        Check.due("none in the shade", y.says(1, 5), 1);
    }
}
