/** Promises 41 to 45: act, trace, image, restore, status. */
public final class ActsTest {
    public static void main(String[] args) {
        bodies();
        wraps();
        noSuchActs();
        images();
        shelvesOfAnImage();
        statusOfRefusals();
        Check.end();
    }

    private static void actOf(PetalPictures x, int stuff, int act, int arg, int due, int... trace) {
        String call = "act(" + stuff + ", " + act + ", " + arg + ")";
        Check.due(call, x.act(stuff, act, arg), due);
        Check.due("bodies of " + call, x.status(7), trace.length);
        for (int i = 0; i < trace.length; i++) {
            Check.due("trace(" + i + ") of " + call, x.trace(i), trace[i]);
        }
        Check.due("behind the trace of " + call, x.trace(trace.length), -1);
        Check.due("ahead of the trace of " + call, x.trace(-1), -1);
    }

    /** Stuff number m is of kind 6 - m, with a = m + 2. */
    private static void bodies() {
        PetalPictures x = Check.told("stuff 6 0 2;stuff 5 0 3;stuff 4 0 4;stuff 3 0 5;stuff 2 0 6;stuff 1 0 7;stuff 0 0 8");
        // petal: m 6, k 8
        actOf(x, 6, 0, 100, 106, 10);
        actOf(x, 6, 1, 100, 212, 11, 10);
        actOf(x, 6, 2, 100, 212 ^ 98, 12, 11, 10, 10);
        // seed: m 5, k 7
        actOf(x, 5, 0, 100, 112, 20, 10);
        actOf(x, 5, 1, 100, 224, 11, 20, 10);
        actOf(x, 5, 2, 100, 224 ^ 105, 12, 11, 20, 10, 20, 10);
        // moss: m 4, k 6
        actOf(x, 4, 0, 100, 104, 10);
        actOf(x, 4, 1, 100, 624, 30, 11, 10);
        actOf(x, 4, 2, 100, 624 ^ 98, 12, 30, 11, 10, 10);
        // lichen: m 3, k 5
        actOf(x, 3, 0, 100, 108, 20, 10);
        actOf(x, 3, 1, 100, 218, 40, 11, 20, 10);
        actOf(x, 3, 2, 100, 218 ^ 103, 12, 40, 11, 20, 10, 20, 10);
        // blue: m 2, k 4
        actOf(x, 2, 0, 100, 100, 51, 10);
        actOf(x, 2, 1, 100, 200, 11, 51, 10);
        actOf(x, 2, 2, 100, -(200 ^ 96), 50, 12, 11, 51, 10, 51, 10);
        // fine: m 1, k 3
        actOf(x, 1, 0, 100, 100, 51, 10);
        actOf(x, 1, 1, 100, 200, 11, 51, 10);
        actOf(x, 1, 2, 100, -(200 ^ 97) ^ 5, 60, 50, 12, 11, 51, 10, 51, 10);
        // fern: m 0, k 2
        actOf(x, 0, 0, 100, 200, 70, 10);
        actOf(x, 0, 1, 100, 1176, 71, 30, 11, 70, 10);
        actOf(x, 0, 2, 100, 1176 ^ 196, 12, 71, 30, 11, 70, 10, 70, 10);
        Check.refusals(x, 0, 0, 0, 0, 0, 0, 0);
    }

    private static void wraps() {
        PetalPictures x = Check.told("stuff 0 0 1;stuff 2 0 9");
        actOf(x, 1, 0, Integer.MAX_VALUE, Integer.MIN_VALUE, 10);
        actOf(x, 1, 1, Integer.MAX_VALUE, 0, 30, 11, 10);
        actOf(x, 0, 2, Integer.MIN_VALUE, Integer.MAX_VALUE, 12, 11, 10, 10);
        actOf(x, 1, 1, -3, -12, 30, 11, 10);
    }

    private static void noSuchActs() {
        PetalPictures x = Check.told("stuff 0 0 1");
        int[][] none = {{1, 0}, {-1, 0}, {0, 3}, {0, -1}, {Integer.MAX_VALUE, Integer.MIN_VALUE}};
        for (int[] one : none) {
            x.act(0, 2, 7);
            Check.due("a trace", x.trace(0), 12);
            Check.due("trace(3)", x.trace(3), 10);
            Check.due("trace(20)", x.trace(20), -1);
            Check.due("no such act", x.act(one[0], one[1], 7), 0);
            Check.due("no trace", x.trace(0), -1);
            Check.due("no bodies", x.status(7), 0);
        }
        Check.refusals(x, 0, 0, 0, 0, 0, 0, 0);
    }

    private static void images() {
        PetalPictures x = new PetalPictures();
        Check.due("no image", x.restore(), -6);
        Check.tell(x, "stuff 0 1 2;cell 20 1;plan 4 0;side 2;lay 23 0;hours 62;spray");
        x.seed(77);
        Check.due("image", x.image(), 1);
        Check.due("unchanged", x.status(1), 1);
        Check.tell(x, "stuff 1 1 1;cell 20 2;cell 21 2;plan 4 1;plan 5 1;side 1;lay 22 1;hours 9;spray");
        x.strip(23);
        x.seed(78);
        x.act(0, 2, 1);
        Check.faulty(x, "?", 0);
        Check.due("restore", x.restore(), 1);
        int[] status = {1, 1, 10, 2, 62, 33, 77, 4};
        for (int what = 0; what < status.length; what++) {
            Check.due("status(" + what + ")", x.status(what), status[what]);
        }
        Check.due("the trace is as it is", x.trace(0), 12);
        Check.due("the fault is as it is", x.fault(), 0);
        Check.due("refusals are as they are", x.status(16), 2);
        int[] cell23 = {-1, 0, -1, 62, 0, 1};
        for (int what = 0; what < 6; what++) {
            Check.due("cellOf(23, " + what + ")", x.cellOf(23, what), cell23[what]);
            Check.due("cellOf(22, " + what + ")", x.cellOf(22, what), what < 3 ? -1 : 0);
        }
        Check.due("colour", x.cellOf(20, 0), 1);
        Check.due("colour", x.cellOf(21, 0), -1);
        Check.due("plan", x.cellOf(4, 2), 0);
        Check.due("plan", x.cellOf(5, 2), -1);
        Check.due("no such stuff", x.stuffOf(1, 0), -5);
        Check.due("a new stuff 1", x.stuff(2, 2, 2), 1);
        Check.due("again", x.restore(), 1);
        Check.due("the image stays as it was taken", x.status(0), 1);
        x.stuff(3, 3, 3);
        x.stuff(3, 3, 3);
        Check.due("a newer image", x.image(), 3);
        x.hours(5);
        Check.due("restore", x.restore(), 3);
        Check.due("hour", x.status(4), 62);
    }

    private static void shelvesOfAnImage() {
        PetalPictures x = Check.told("stuff 0 1 2;stuff 1 1 2");
        x.row(3, 2, 2);
        x.set(3, 1, 44);
        x.image();
        x.stuff(2, 1, 2);
        x.show(0, 0);
        x.show(1, 1);
        x.show(2, 2);
        x.set(3, 1, 45);
        x.row(4, 3, 1);
        Check.due("restore", x.restore(), 2);
        Check.due("stays", x.holds(0), 0);
        Check.due("stays", x.holds(1), 1);
        Check.due("nothing", x.holds(2), -1);
        Check.due("a row", x.holds(3), 102);
        Check.due("a row stays as it is", x.element(3, 1), 45);
        Check.due("a row", x.holds(4), 103);
        Check.due("nothing", x.says(2, 0), -3);

        // a shelf with a stuff of another kind behind the same number holds that of the image
        PetalPictures y = Check.told("stuff 0 1 2");
        y.image();
        PetalPictures z = new PetalPictures();
        z.image();
        z.stuff(0, 5, 0);
        z.stuff(1, 6, 0);
        z.show(0, 1);
        Check.due("restore to none", z.restore(), 0);
        Check.due("nothing", z.holds(0), -1);
        z.stuff(0, 3, 0);
        z.stuff(3, 4, 0);
        z.image();
        z.show(0, 1);
        Check.due("says as lichen", z.says(0, 3), 9);
        Check.due("restore", z.restore(), 2);
        Check.due("says as lichen", z.says(0, 3), 9);
    }

    private static void statusOfRefusals() {
        PetalPictures x = new PetalPictures();
        x.row(8, 0, 0);
        x.age(8, 0);
        x.set(0, 0, 0);
        x.judge(0, 0);
        x.row(0, 0, -1);
        x.row(0, 0, 0);
        x.age(0, -1);
        x.set(0, 0, 0);
        x.cellOf(0, 9);
        x.best(0, 0, 0, 9);
        x.judge(0, 1);
        x.side(9);
        x.women(-1);
        x.row(0, 0, 999);
        Check.refusals(x, 2, 0, 2, 2, 4, 2, 1);
        x.stuff(0, 0, 0);
        x.show(0, 0);
        x.village(0);
        x.judge(0, 0);
        Check.refusals(x, 2, 2, 2, 2, 4, 2, 1);
        int[] none = {8, 9, 10, 18, -1, Integer.MAX_VALUE, Integer.MIN_VALUE};
        for (int what : none) {
            Check.due("status(" + what + ")", x.status(what), -1);
        }
    }
}
