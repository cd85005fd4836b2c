/** Promises 22 to 38: fresh, beauty, looks, worst, all, best, turn, next, done, women, dry, sprayings, was, age, lacking, wrong, judge. */
public final class ThoughtTest {
    public static void main(String[] args) {
        freshOfKinds();
        freshEdges();
        beauties();
        looksAndHours();
        best();
        turns();
        next();
        work();
        workInOrder();
        clay();
        was();
        age();
        lackingAndWrong();
        judge();
        Check.end();
    }

    private static void freshOf(String name, PetalPictures x, int cell, int... due) {
        for (int i = 0; i < due.length; i += 2) {
            Check.due("fresh of " + name + " behind " + due[i], x.fresh(cell, due[i]), due[i + 1]);
        }
    }

    private static void freshOfKinds() {
        PetalPictures x = Check.told("stuff 0 0 2;stuff 1 0 2;stuff 2 0 2;stuff 3 0 0;stuff 4 0 2;stuff 5 0 2;stuff 6 0 9");
        Check.tell(x, "side 1;lay 20 0;lay 21 1;lay 22 0;lay 23 4");
        freshOf("petal in the sun", x, 20, 0, 9, 2, 9, 3, 8, 26, 1, 27, 0, 240, 0);
        freshOf("petal in the shade", x, 22, 2, 9, 3, 8);
        freshOf("seed", x, 21, 12, 9, 14, 9, 15, 8, 38, 1, 39, 0);
        freshOf("blue in the shade", x, 23, 2, 9, 3, 8);
        Check.tell(x, "lay 16 2;lay 17 4;lay 18 6;lay 19 3;spray;lay 12 5;lay 13 5;lay 14 6;lay 15 2;spray");
        freshOf("moss of two sprays", x, 16, 14, 9, 15, 8, 38, 1, 39, 0);
        freshOf("moss of one spray", x, 15, 8, 9, 9, 8, 240, 0);
        freshOf("blue in the sun", x, 17, 1, 9, 2, 8, 3, 7);
        freshOf("lichen", x, 19, 0, 9, 240, 9);
        freshOf("fine of one spray", x, 12, 0, 8, 1, 8, 2, 7, 12, 0, 100, 0);
        freshOf("fern of two sprays", x, 18, 21, 9, 22, 8, 48, 6, 49, 0);
        freshOf("fern of one spray", x, 14, 15, 9, 16, 8, 48, 5, 49, 0);
        Check.due("fresh of a bare one", x.fresh(0, 5), 0);
        x.hours(3);
        freshOf("petal older by 3", x, 20, 0, 8, 23, 1, 24, 0);
        x.side(0);
        freshOf("blue of 3 hours in the sun, now in the shade", x, 17, 0, 7, 2, 7, 3, 6);
        x.side(2);
        freshOf("blue of 3 hours in the shade, now in the sun", x, 23, 0, 8, 1, 8, 2, 7);
    }

    private static void freshEdges() {
        PetalPictures x = Check.told("stuff 5 0 9;lay 20 0;spray;spray;spray;spray;spray;spray;spray;spray;spray;spray");
        Check.due("0 at least", x.fresh(20, 0), 0);
        Check.due("no cell", x.fresh(24, 241), -1);
        Check.due("no cell", x.fresh(-1, 0), -1);
        Check.due("too many hours", x.fresh(20, 241), -6);
        Check.due("hours below 0", x.fresh(0, -1), -6);
        Check.due("no cell", x.beauty(24, 241), -1);
        Check.due("no cell", x.beauty(-1, 0), -1);
        Check.due("too many hours", x.beauty(20, 241), -6);
        Check.due("hours below 0", x.beauty(0, -1), -6);
        Check.due("too many hours", x.looks(241), -6);
        Check.due("hours below 0", x.looks(-1), -6);
        Check.due("t below f", x.worst(5, 4), -6);
        Check.due("f below 0", x.worst(-1, 4), -6);
        Check.due("t too far", x.worst(0, 241), -6);
        Check.due("t below f", x.all(5, 4), -6);
        Check.due("f below 0", x.all(-1, 4), -6);
        Check.due("t too far", x.all(0, 241), -6);
        Check.due("t below f", x.turn(5, 4), -6);
        Check.due("f below 0", x.turn(-1, 4), -6);
        Check.due("t too far", x.turn(0, 241), -6);
        Check.refusals(x, 4, 0, 0, 0, 0, 15, 0);
    }

    private static void beauties() {
        PetalPictures x = Check.told("stuff 0 3 0;cell 20 3;cell 21 2;lay 20 0;lay 21 0;lay 22 0");
        Check.due("its colour", x.beauty(20, 4), 5);
        Check.due("another colour", x.beauty(21, 4), 0);
        Check.due("no colour", x.beauty(22, 4), 0);
        Check.due("bare", x.beauty(23, 4), 0);
        Check.due("far", x.beauty(20, 240), 0);
    }

    private static void looksAndHours() {
        PetalPictures x = Check.told("stuff 0 0 0;stuff 3 1 0;stuff 1 0 0;cell 20 0;cell 21 1;cell 22 0;lay 20 0;lay 21 1;lay 22 2");
        int[] due = {27, 26, 25};
        for (int n = 0; n < due.length; n++) {
            Check.due("looks(" + n + ")", x.looks(n), due[n]);
        }
        Check.due("looks(9)", x.looks(9), 18);
        Check.due("looks(13)", x.looks(13), 17);
        Check.due("looks(240)", x.looks(240), 9);
        Check.due("all of one", x.all(1, 1), 26);
        Check.due("all", x.all(0, 12), 45 + 13 * 9 + 13 * 9);
        Check.due("all to the end", x.all(0, 240), 45 + 241 * 9 + 13 * 9 + 36);
        Check.due("worst, the first", x.worst(0, 240), 21);
        Check.due("worst of like ones", x.worst(9, 12), 9);
        Check.due("worst of falling ones", x.worst(0, 8), 8);
        Check.due("worst of one", x.worst(240, 240), 240);
        Check.due("nothing is changed", x.status(4), 0);
        Check.due("nothing is changed", x.looks(0), 27);
        Check.due("worst of two", x.worst(20, 21), 21);
        Check.due("worst of three", x.worst(20, 22), 21);
        PetalPictures top = Check.told("stuff 0 4 0;cell 0 4;lay 0 0");
        Check.due("looks of cell 0", top.looks(2), 7);
        Check.due("worst of nothing", new PetalPictures().worst(7, 240), 7);
    }

    private static void best() {
        PetalPictures x = Check.told("stuff 0 1 0;stuff 1 1 0;stuff 3 2 0;stuff 0 1 9;stuff 4 1 9;cell 20 1;cell 22 1;cell 23 7");
        Check.due("no colour", x.best(0, 0, 1, 0), -1);
        Check.due("no such stuff", x.best(23, 0, 1, 0), -1);
        // hours 0 to 12: seed keeps 9 all the time; petal of 10 falls by 1 from hour 10 on
        Check.due("together", x.best(20, 0, 12, 0), 1);
        Check.due("at worst", x.best(20, 0, 12, 1), 1);
        Check.due("of several the first", x.best(20, 0, 0, 0), 0);
        Check.due("of several the first", x.best(20, 0, 0, 1), 0);
        // hours 13 to 30: seed 8 .. 0, petal 8 8 .. 7 .. 6
        Check.due("together later", x.best(20, 13, 30, 0), 3);
        // together 0 to 24: seed 13 * 9 + 36 = 153; petal 90 + 80 + 35 = 205
        Check.due("together", x.best(20, 0, 24, 0), 3);
        Check.due("together", x.best(20, 0, 14, 0), 1);
        Check.due("at worst", x.best(20, 0, 14, 1), 3);
        Check.due("at worst, all 0", x.best(20, 240, 240, 1), 0);
        Check.due("already laid ones too", x.lay(20, 0), 1);
        x.hours(50);
        Check.due("were it laid now", x.best(20, 0, 24, 0), 3);

        PetalPictures y = Check.told("stuff 4 1 9;stuff 0 1 5;cell 20 1;cell 22 1;side 1");
        Check.due("blue in the sun", y.best(20, 0, 12, 0), 1);
        Check.due("blue in the shade", y.best(22, 0, 12, 0), 0);

        // in the sun all the hours: behind 9 of them a petal of 10 is whole still, so it is like a lichen
        PetalPictures z = Check.told("stuff 0 1 9;stuff 3 1 9;stuff 0 2 0;stuff 2 2 0;cell 20 1;cell 22 2;side 1");
        Check.due("no hour in the shade", z.best(20, 0, 9, 0), 0);
        Check.due("an hour more", z.best(20, 0, 10, 0), 1);
        Check.due("an hour more", z.best(20, 0, 10, 1), 1);
        Check.due("moss without sprays is like a petal", z.best(22, 0, 9, 0), 2);

        Check.due("no cell", x.best(24, 0, 1, 2), -11);
        Check.due("no cell", x.best(-1, 0, 1, 0), -11);
        Check.due("another how", x.best(0, 5, 1, 2), -15);
        Check.due("another how", x.best(0, 5, 1, -1), -15);
        Check.due("t below f", x.best(0, 5, 4, 0), -16);
        Check.due("f below 0", x.best(0, -1, 4, 0), -16);
        Check.due("t too far", x.best(0, 0, 241, 1), -16);
        Check.refusals(x, 2, 0, 0, 0, 2, 3, 0);
    }

    private static void turns() {
        PetalPictures x = Check.told("stuff 4 1 1;cell 20 1;cell 22 1;cell 23 1;lay 20 0;lay 22 0;lay 23 0;side 2");
        Check.due("no sun is best", x.turn(0, 20), 0);
        Check.due("of several the first", x.turn(0, 0), 0);
        Check.due("side as it is", x.status(3), 2);
        // only days with the sun on the other half are like none at all: with one half bare sides 0 and 1 are alike
        PetalPictures y = Check.told("stuff 4 1 1;cell 23 1;lay 23 0;side 1");
        Check.due("the first of alike ones", y.turn(0, 20), 0);
        Check.due("what is dead stays dead", y.turn(100, 240), 0);
        PetalPictures z = Check.told("stuff 4 1 1;cell 20 1;lay 20 0;side 1");
        Check.due("sides 0 and 2 are alike", z.turn(0, 20), 0);
    }

    private static void next() {
        PetalPictures x = Check.told("stuff 0 0 0;plan 1 0;plan 2 0;plan 5 0");
        Check.due("nothing drawn", x.next(), 5);
        Check.tell(x, "cell 9 0");
        Check.due("drawn and bare below", x.next(), 1);
        Check.tell(x, "plan 22 0;plan 21 0");
        Check.due("the lowest row, the first column", x.next(), 21);
        x.lay(21, 0);
        Check.due("the next column", x.next(), 22);
        x.lay(22, 0);
        Check.due("up again", x.next(), 1);
        x.lay(1, 0);
        Check.due("then", x.next(), 2);
        x.lay(2, 0);
        Check.due("none that may", x.next(), -1);
        x.lay(9, 0);
        Check.due("it may now", x.next(), 5);
        x.plan(5, -1);
        Check.due("none planned", x.next(), -1);
        x.plan(0, 0);
        Check.due("the last of all", x.next(), 0);
    }

    private static void work() {
        PetalPictures x = Check.told("stuff 0 0 0;stuff 0 0 9;stuff 0 0 5");
        for (int w = 1; w <= 6; w++) {
            Check.due("nothing planned", x.done(w), 0);
        }
        Check.due("nothing planned", x.women(0), 1);
        Check.tell(x, "plan 20 0");
        Check.due("one", x.done(1), 10);
        Check.due("one", x.done(6), 10);
        Check.tell(x, "plan 16 1;plan 23 2;plan 3 1");
        // column 0: 10 + 1, column 3: 5 + 1
        Check.due("alone", x.done(1), 17);
        Check.due("two", x.done(2), 11);
        Check.due("six", x.done(6), 11);
        Check.due("women(10)", x.women(10), -1);
        Check.due("women(11)", x.women(11), 2);
        Check.due("women(16)", x.women(16), 2);
        Check.due("women(17)", x.women(17), 1);
        Check.due("women(999)", x.women(999), 1);
        Check.due("women(1000)", x.women(1000), -16);
        Check.due("women(-1)", x.women(-1), -16);
        Check.due("done(0)", x.done(0), -6);
        Check.due("done(7)", x.done(7), -6);
        Check.refusals(x, 0, 0, 0, 0, 0, 4, 0);
        x.lay(20, 2);
        Check.due("laid ones are done", x.done(1), 7);
        Check.due("laid ones are done", x.done(2), 6);
    }

    /** The order in which women take cells matters here: minutes worked out by hand. */
    private static void workInOrder() {
        // columns' cells from below: 0: 6, 6; 1: 5, 5; 2: 4, 4, 4
        PetalPictures x = Check.told("stuff 0 0 4;stuff 0 0 5;stuff 0 0 6");
        Check.tell(x, "plan 20 0;plan 16 0;plan 21 1;plan 17 1;plan 22 2;plan 14 2;plan 2 2");
        // two women: 0 (12 left) and 2 (12); at 4: 1 (10) before 2 (8); at 6: 2 (8) before 0 (6), till 10;
        // at 9: 0 (6) before 1 (5), till 15; at 10: 1 (5) before 2 (4), till 15; at 15: 2, till 19
        Check.due("two women", x.done(2), 19);
        // three: 0, 1 and 2 go through: 12, 10, 12
        Check.due("three women", x.done(3), 12);
        Check.due("alone", x.done(1), 34);
        Check.due("women", x.women(18), 3);
        Check.due("women", x.women(19), 2);
        Check.due("women", x.women(11), -1);

        // all finish ahead of anybody taking: 0: 3, 9 and 1: 3, 10 and 2: 4
        PetalPictures y = Check.told("stuff 0 0 7;stuff 0 0 1;stuff 0 0 0;stuff 0 0 6");
        Check.tell(y, "plan 20 0;plan 16 1;plan 21 0;plan 17 2;plan 22 3");
        // at 0: column 1 (13) and 0 (12); at 3: both free, 1 (10) and 0 (9), till 13 and 12; at 12: 2 till 16
        Check.due("two women", y.done(2), 16);
        Check.due("three women", y.done(3), 13);

        PetalPictures z = Check.told("stuff 0 0 0");
        for (int cell = 0; cell < 24; cell++) {
            z.plan(cell, 0);
        }
        Check.due("all", z.done(1), 240);
        Check.due("all", z.done(2), 120);
        Check.due("all", z.done(4), 60);
        Check.due("all", z.done(6), 60);
        Check.due("women", z.women(59), -1);
        Check.due("women", z.women(60), 4);
        // three women over four columns of 60: 240 / 3, for nobody waits
        Check.due("all", z.done(3), 80);
    }

    private static void clay() {
        PetalPictures x = new PetalPictures();
        Check.due("dry", x.dry(), 60);
        Check.due("sprayings", x.sprayings(59), 0);
        Check.due("sprayings", x.sprayings(60), 1);
        Check.due("sprayings", x.sprayings(69), 1);
        Check.due("sprayings", x.sprayings(70), 2);
        Check.due("sprayings", x.sprayings(240), 19);
        Check.due("no hours", x.sprayings(0), 0);
        Check.due("hours below 0", x.sprayings(-1), -6);
        Check.due("too many hours", x.sprayings(241), -6);
        Check.due("nothing is changed", x.status(2), 60);
        x.side(2);
        Check.due("dry", x.dry(), 30);
        Check.due("sprayings", x.sprayings(29), 0);
        Check.due("sprayings", x.sprayings(30), 1);
        Check.due("sprayings", x.sprayings(35), 2);
        x.side(0);
        x.hours(1);
        x.side(1);
        Check.due("dry of odd wet", x.dry(), 30);
        // 59 .. 1 behind 29 hours; then 11 - 2 .. 1 behind 5 more
        Check.due("sprayings of odd wet", x.sprayings(29), 0);
        Check.due("sprayings of odd wet", x.sprayings(34), 1);
        Check.due("sprayings of odd wet", x.sprayings(35), 2);
        x.hours(100);
        Check.due("dry already", x.dry(), 1);
        Check.due("dry already", x.sprayings(0), 0);
        Check.due("dry already", x.sprayings(1), 1);
        Check.refusals(x, 0, 0, 0, 0, 0, 2, 0);
    }

    private static void was() {
        PetalPictures x = Check.told("stuff 0 0 1;stuff 1 0 1;stuff 2 0 1;stuff 3 0 1;stuff 4 0 1;stuff 5 0 1;stuff 6 0 1");
        // 6 in the sun, 4 in the shade, 1 spray: petal 10/2, seed 0, moss 4/2, lichen 0, blue 16/2, fine 8 and 1, fern 4/2
        Check.due("4", x.was(6, 4, 1, 4), 1);
        Check.due("9", x.was(6, 4, 1, 9), 10);
        Check.due("7", x.was(6, 4, 1, 7), 4 + 64);
        Check.due("1", x.was(6, 4, 1, 1), 16);
        Check.due("0", x.was(6, 4, 1, 0), 32);
        Check.due("5", x.was(6, 4, 1, 5), 0);
        Check.due("moss and fern at 48", x.was(24, 24, 7, 6), 4 + 64);
        Check.due("moss without fern at 49", x.was(24, 25, 7, 6), 4);
        Check.due("fern at 49", x.was(24, 25, 7, 0) & 64, 64);
        Check.due("most", x.was(240, 240, 20, 9), 8);
        int[][] wrong = {{-1, 0, 0, 0}, {241, 0, 0, 0}, {0, -1, 0, 0}, {0, 241, 0, 0},
            {0, 0, -1, 0}, {0, 0, 21, 0}, {0, 0, 0, -1}, {0, 0, 0, 10}};
        for (int[] w : wrong) {
            Check.due("wrong", x.was(w[0], w[1], w[2], w[3]), -6);
        }
        Check.refusals(x, 0, 0, 0, 0, 0, 8, 0);
        Check.due("no stuffs", new PetalPictures().was(0, 0, 0, 9), 0);
    }

    private static void age() {
        PetalPictures x = new PetalPictures();
        x.row(0, 2, 0);
        Check.due("nothing laid", x.age(0, 0), 0);
        Check.tell(x, "stuff 0 0 1;stuff 1 0 0;lay 20 0;lay 3 1");
        Check.putInts(x, 0, 9, 9, 77);
        Check.due("now", x.age(0, 2), 0);
        Check.putInts(x, 0, 7, 4);
        // cell 3 (seed) first: 9 less (h - 12) is 7 at 14; cell 20 (petal) 9 - 14/2 = 2
        Check.due("not both", x.age(0, 2), -1);
        Check.putInts(x, 0, 7, 2);
        Check.due("by numbers", x.age(0, 2), 14);
        Check.putInts(x, 0, 0, 0);
        Check.due("the first", x.age(0, 2), 21);
        x.row(1, 3, 2);
        x.set(1, 0, (3L << 32) + 7);
        x.set(1, 1, 2);
        Check.due("longs by their lowest 32 bits", x.age(1, 2), 14);
        Check.putInts(x, 0, -1, 0);
        Check.due("never", x.age(0, 2), -1);
        // moss of 35 sprays keeps for 210 hours; brown 30 by 10 is 3 behind 240
        PetalPictures old = Check.told("stuff 2 0 9;lay 0 0");
        for (int i = 0; i < 35; i++) {
            old.spray();
        }
        Check.putInts(old, 0, 6);
        Check.due("the last hour", old.age(0, 1), 240);
        Check.putInts(old, 0, 5);
        Check.due("behind the last hour", old.age(0, 1), -1);
        Check.due("nothing refused", x.status(16), 0);
        Check.due("no shelf", x.age(8, -1), -11);
        Check.due("no shelf", x.age(-1, 2), -11);
        Check.due("nothing", x.age(5, -1), -13);
        x.show(5, 0);
        Check.due("a stuff", x.age(5, -1), -12);
        Check.due("below", x.age(0, -1), -14);
        Check.due("fewer elements before another n", x.age(0, 3), -15);
        Check.due("another n", x.age(0, 1), -16);
        Check.due("another n", x.age(0, 0), -16);
        Check.putInts(x, 0, 9, 9, 9);
        Check.due("another n", x.age(0, 3), -16);
        Check.refusals(x, 2, 1, 1, 1, 1, 3, 0);
    }

    private static void lackingAndWrong() {
        PetalPictures x = Check.told("stuff 0 2 0;stuff 0 5 0;cell 0 0;cell 1 2;cell 2 7;cell 3 7;cell 4 3");
        Check.due("lacking", x.lacking(), 1 + 8 + 128);
        x.stuff(0, 7, 0);
        Check.due("lacking", x.lacking(), 1 + 8);
        x.cell(0, -1);
        Check.due("lacking", x.lacking(), 8);
        Check.due("wrong", x.wrong(), 0);
        x.lay(1, 0);
        Check.due("its colour", x.wrong(), 0);
        x.lay(2, 1);
        Check.due("another colour", x.wrong(), 4);
        x.lay(23, 0);
        Check.due("no colour", x.wrong(), 4 + (1 << 23));
        x.cell(1, 5);
        Check.due("drawn anew", x.wrong(), 6 + (1 << 23));
        x.strip(23);
        Check.due("bare", x.wrong(), 6);
        x.cell(0, 6);
        Check.due("lacking of cell 0", x.lacking(), 8 + 64);
        x.cell(4, -1);
        x.lay(0, 0);
        Check.due("wrong of cell 0", x.wrong(), 7);
    }

    private static void judge() {
        PetalPictures x = Check.told("stuff 0 2 0;stuff 0 5 0;cell 20 0;cell 16 0");
        Check.putInts(x, 0, 200, 161, 120);
        Check.due("all may be", x.judge(0, 3), -1);
        Check.due("nothing is changed", x.status(1), 0);
        Check.putInts(x, 0, 161, 200, 120);
        Check.due("none below", x.judge(0, 3), 0);
        Check.due("none told", x.judge(0, 0), -1);
        Check.putInts(x, 0, 200, 200);
        Check.due("twice", x.judge(0, 2), 1);
        Check.due("once", x.judge(0, 1), -1);
        int[] bad = {202, 209, 240, 241, 1000, -1, -200, Integer.MAX_VALUE, Integer.MIN_VALUE};
        for (int told : bad) {
            Check.putInts(x, 0, 230, told);
            Check.due("may not be " + told, x.judge(0, 2), 1);
        }
        Check.putInts(x, 0, 0, 11, 221);
        Check.due("cells 0, 1, 22", x.judge(0, 3), -1);
        x.row(1, 3, 1);
        x.set(1, 0, (9L << 32) + 201);
        Check.due("longs by their lowest 32 bits", x.judge(1, 1), -1);
        x.lay(20, 0);
        Check.due("what is laid counts", x.judge(1, 1), 0);
        x.row(2, 0, 160);
        Check.due("most", x.judge(2, 40), 1);
        Check.due("nothing refused", x.status(16), 0);
        Check.due("too many", x.judge(2, 41), -16);
        Check.due("fewer elements before too many", x.judge(1, 41), -15);
        Check.due("fewer elements", x.judge(1, 2), -15);
        Check.due("below", x.judge(1, -1), -14);
        Check.due("nothing", x.judge(5, -1), -13);
        x.show(5, 0);
        Check.due("a stuff", x.judge(5, -1), -12);
        Check.due("no shelf", x.judge(8, -1), -11);
        Check.due("no shelf", x.judge(-1, 0), -11);
        Check.refusals(x, 2, 1, 1, 1, 2, 1, 0);
    }
}
