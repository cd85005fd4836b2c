/** Promises 16 to 21, 39 and 40: may, lay, strip, spray, side, hours, days, seed. */
public final class TruthTest {
    public static void main(String[] args) {
        layings();
        strips();
        sprays();
        sidesAndHours();
        cracks();
        seeds();
        days();
        Check.end();
    }

    private static void layings() {
        PetalPictures x = Check.told("stuff 0 0 0;stuff 1 1 1;cell 20 0;cell 16 0;cell 12 5");
        Check.due("lowest row", x.may(20), 1);
        Check.due("bare and drawn below", x.may(16), 0);
        Check.due("bare and not drawn below", x.may(17), 1);
        Check.due("no cell", x.may(24), -1);
        Check.due("no cell", x.may(-1), -1);
        Check.due("may not", x.lay(16, 0), -6);
        Check.due("no stuff", x.lay(16, 2), -1);
        Check.due("no stuff", x.lay(20, -1), -1);
        Check.due("no cell", x.lay(24, 0), -1);
        Check.due("no cell", x.lay(-1, 0), -1);
        Check.due("lay", x.lay(20, 1), 1);
        Check.due("laid", x.cellOf(20, 1), 1);
        Check.due("laid already", x.may(20), 0);
        Check.due("laid already", x.lay(20, 1), -6);
        Check.due("laid below", x.may(16), 1);
        Check.due("lay", x.lay(16, 0), 2);
        Check.due("lay over an undrawn one", x.lay(4, 0), 3);
        Check.due("laid where nothing is drawn", x.may(0), 1);
        Check.refusals(x, 6, 0, 0, 0, 0, 2, 0);
    }

    private static void strips() {
        PetalPictures x = Check.told("stuff 0 0 0;stuff 1 1 1;cell 20 0;cell 16 0;lay 20 1;lay 16 0;plan 20 0;spray;hours 2");
        Check.due("no cell", x.strip(24), -1);
        Check.due("no cell", x.strip(-1), -1);
        Check.due("bare", x.strip(21), -6);
        Check.due("strip", x.strip(20), 1);
        Check.due("what lies above stays", x.cellOf(16, 1), 0);
        Check.due("what lies above stays", x.cellOf(16, 4), 2);
        int[] due = {0, -1, 0, 0, 0, 0};
        for (int what = 0; what < 6; what++) {
            Check.due("bare cellOf(20, " + what + ")", x.cellOf(20, what), due[what]);
        }
        Check.due("bare now", x.strip(20), -6);
        Check.due("lay again", x.lay(20, 0), 2);
        Check.due("new hours", x.cellOf(20, 4), 0);
        Check.due("new sprays", x.cellOf(20, 5), 0);
        Check.refusals(x, 2, 0, 0, 0, 0, 2, 0);
        Check.tell(x, "lay 0 1;side 1;hours 5;spray");
        Check.due("hours in the sun of cell 0", x.cellOf(0, 3), 5);
        Check.due("sprays of cell 0", x.cellOf(0, 5), 1);
        Check.due("strip", x.strip(0), 1);
        Check.due("no hours in the sun of a bare one", x.cellOf(0, 3), 0);
        x.lay(0, 0);
        Check.due("none of one laid anew", x.cellOf(0, 3), 0);
    }

    private static void sprays() {
        PetalPictures x = Check.told("stuff 0 0 0;lay 20 0");
        int[] wet = {70, 80, 90, 99, 99};
        for (int i = 0; i < wet.length; i++) {
            Check.due("spray " + i, x.spray(), wet[i]);
        }
        Check.due("sprays of a laid cell", x.cellOf(20, 5), 5);
        Check.due("sprays of a bare cell", x.cellOf(21, 5), 0);
        x.lay(21, 0);
        x.spray();
        Check.due("sprays since", x.cellOf(21, 5), 1);
    }

    private static void sidesAndHours() {
        PetalPictures x = Check.told("stuff 0 0 0;lay 20 0;lay 21 0;lay 22 0;lay 23 0");
        Check.due("hours", x.hours(1), 1);
        Check.due("side", x.side(1), 0);
        Check.due("hours", x.hours(2), 3);
        Check.due("side", x.side(2), 1);
        Check.due("hours", x.hours(4), 7);
        Check.due("side", x.side(3), -6);
        Check.due("side", x.side(-1), -6);
        Check.due("side is as it was", x.side(2), 2);
        int[] sun = {2, 2, 4, 4};
        for (int column = 0; column < 4; column++) {
            Check.due("sun", x.cellOf(20 + column, 3), sun[column]);
            Check.due("shade", x.cellOf(20 + column, 4), 7 - sun[column]);
        }
        Check.due("wet", x.status(2), 60 - 1 - 4 - 8);
        Check.due("bare", x.cellOf(16, 4), 0);
        Check.due("no hours", x.hours(0), -6);
        Check.due("no hours", x.hours(-1), -6);
        Check.due("too many", x.hours(241), -6);
        Check.due("hour as it was", x.status(4), 7);
        Check.due("most", x.hours(240), 247);
        Check.refusals(x, 0, 0, 0, 0, 0, 5, 0);
    }

    private static void cracks() {
        PetalPictures x = new PetalPictures();
        x.hours(59);
        Check.due("wet", x.status(2), 1);
        Check.due("no crack", x.status(5), 0);
        x.hours(1);
        Check.due("dry", x.status(2), 0);
        Check.due("a crack", x.status(5), 1);
        x.hours(3);
        Check.due("more cracks", x.status(5), 4);
        x.side(1);
        x.spray();
        x.hours(1);
        Check.due("two an hour", x.status(2), 8);
        x.side(2);
        x.hours(4);
        Check.due("two an hour", x.status(2), 0);
        Check.due("a crack more", x.status(5), 5);
        x.side(0);
        x.spray();
        x.hours(9);
        x.side(1);
        Check.due("one left", x.status(2), 1);
        x.hours(1);
        Check.due("0 at least", x.status(2), 0);
        Check.due("a crack more", x.status(5), 6);
    }

    private static void seeds() {
        PetalPictures x = new PetalPictures();
        Check.due("at first", x.seed(Integer.MIN_VALUE), 1);
        Check.due("kept", x.seed(-5), Integer.MIN_VALUE);
        Check.due("status", x.status(6), -5);
        x.days(1);
        int seed = (-5 * 1103515245 + 12345) * 1103515245 + 12345;
        Check.due("two draws a day", x.seed(0), seed);
    }

    private static void days() {
        PetalPictures x = Check.told("stuff 0 0 0;lay 20 0;lay 21 0;lay 22 0;lay 23 0;lay 0 0;lay 5 0");
        Check.due("no days", x.days(0), -6);
        Check.due("no days", x.days(-1), -6);
        Check.due("too many", x.days(21), -6);
        Check.refusals(x, 0, 0, 0, 0, 0, 3, 0);
        int seed = 1;
        int wet = 60;
        int cracks = 0;
        for (int day = 0; day < 12; day++) {
            seed = seed * 1103515245 + 12345;
            int side = (seed >>> 16) % 3;
            int before = cracks;
            for (int hour = 0; hour < 24; hour++) {
                wet = Math.max(0, wet - (side == 0 ? 1 : 2));
                cracks += wet == 0 ? 1 : 0;
            }
            wet += wet < 30 ? 10 : 0;
            seed = seed * 1103515245 + 12345;
            Check.due("cracks of day " + day, x.days(1), cracks - before);
            Check.due("side of day " + day, x.status(3), side);
            Check.due("wet of day " + day, x.status(2), wet);
            Check.due("hour of day " + day, x.status(4), 24 * day + 24);
            Check.due("the beetle's cell", x.cellOf((seed >>> 16) % 24, 1), -1);
        }
        Check.due("cracks", x.status(5), cracks);
        Check.due("most", x.days(20) >= 0 ? 1 : 0, 1);
        Check.due("hour", x.status(4), 24 * 32);

        // with side 0 drawn first, what is left behind 24 hours is 54 less 24, just not below 30
        PetalPictures edge = new PetalPictures();
        edge.hours(6);
        int seedOfShade = 1;
        while (((seedOfShade * 1103515245 + 12345) >>> 16) % 3 != 0) {
            seedOfShade++;
        }
        edge.seed(seedOfShade);
        edge.days(1);
        Check.due("no spray at 30", edge.status(2), 30);
        edge.seed(seedOfShade);
        edge.days(1);
        Check.due("a spray below 30", edge.status(2), 16);

        PetalPictures once = Check.told("stuff 0 0 0;lay 20 0;hours 7");
        once.spray();
        once.days(1);
        Check.due("63 less a day is 39 or 15", once.status(2) == 39 || once.status(2) == 25 ? 1 : 0, 1);
        once.hours(240);
        int had = once.status(5);
        Check.due("only the cracks in them", once.days(1), once.status(5) - had);
    }
}
