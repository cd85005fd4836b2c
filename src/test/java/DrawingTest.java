/** Promises 9 to 15: stuff, stuffOf, cell, cellOf, plan, village, fault. */
public final class DrawingTest {
    private static final int MIN = Integer.MIN_VALUE;
    private static final int MAX = Integer.MAX_VALUE;

    public static void main(String[] args) {
        stuffs();
        drawing();
        plans();
        villageTellsAll();
        villageOfLongs();
        villageRefusals();
        faultsOfWords();
        faultsOfNumbers();
        faultsOfRoom();
        faultsOfLayings();
        faultsChangeNothing();
        faultStays();
        Check.end();
    }

    private static void stuffs() {
        PetalPictures x = new PetalPictures();
        Check.due("first", x.stuff(6, 7, 9), 0);
        Check.due("second", x.stuff(0, 0, 0), 1);
        Check.due("kind", x.stuffOf(0, 0), 6);
        Check.due("colour", x.stuffOf(0, 1), 7);
        Check.due("a", x.stuffOf(0, 2), 9);
        Check.due("another what", x.stuffOf(0, 3), -5);
        Check.due("another what", x.stuffOf(0, -1), -5);
        Check.due("no such one", x.stuffOf(2, 0), -5);
        Check.due("no such one", x.stuffOf(-1, 0), -5);
        Check.due("no such one", x.stuffOf(MAX, MIN), -5);
        Check.due("no kind", x.stuff(7, 8, 0), -1);
        Check.due("no kind", x.stuff(-1, 0, 0), -1);
        Check.due("wrong colour", x.stuff(0, 8, 0), -6);
        Check.due("wrong colour", x.stuff(0, -1, 0), -6);
        Check.due("wrong a", x.stuff(0, 0, 10), -6);
        Check.due("wrong a", x.stuff(0, 0, -1), -6);
        Check.due("none came", x.status(0), 2);
        for (int i = 2; i < 8; i++) {
            Check.due("up to 8", x.stuff(i - 1, i, i), i);
        }
        Check.due("no room", x.stuff(0, 0, 0), -7);
        Check.due("wrong before room", x.stuff(0, 9, 0), -6);
        Check.due("nobody before room", x.stuff(9, 0, 0), -1);
        Check.due("eight", x.status(0), 8);
        Check.due("the last", x.stuffOf(7, 1), 7);
        Check.refusals(x, 3, 0, 0, 0, 5, 5, 1);
    }

    private static void drawing() {
        PetalPictures x = new PetalPictures();
        Check.due("cell", x.cell(0, 0), 1);
        Check.due("cell", x.cell(23, 7), 1);
        Check.due("colour", x.cellOf(0, 0), 0);
        Check.due("colour", x.cellOf(23, 0), 7);
        Check.due("none", x.cell(23, -1), 0);
        Check.due("none", x.cellOf(23, 0), -1);
        Check.due("no cell", x.cell(24, 8), -1);
        Check.due("no cell", x.cell(-1, 0), -1);
        Check.due("wrong colour", x.cell(0, 8), -6);
        Check.due("wrong colour", x.cell(0, -2), -6);
        Check.due("as it was", x.cellOf(0, 0), 0);
        Check.due("cellOf no cell", x.cellOf(24, 0), -15);
        Check.due("cellOf no cell", x.cellOf(-1, 0), -15);
        Check.due("cellOf another what", x.cellOf(0, 6), -15);
        Check.due("cellOf another what", x.cellOf(0, -1), -15);
        Check.refusals(x, 2, 0, 0, 0, 4, 2, 0);

        Check.tell(x, "stuff 0 1 2;lay 20 0;lay 22 0;side 1;hours 3;spray;side 2;hours 2");
        int[] sunny = {-1, 0, -1, 3, 2, 1};
        int[] shady = {-1, 0, -1, 2, 3, 1};
        for (int what = 0; what < 6; what++) {
            Check.due("cellOf(20, " + what + ")", x.cellOf(20, what), sunny[what]);
            Check.due("cellOf(22, " + what + ")", x.cellOf(22, what), shady[what]);
            Check.due("cellOf(21, " + what + ")", x.cellOf(21, what), what < 3 ? -1 : 0);
        }
    }

    private static void plans() {
        PetalPictures x = Check.told("stuff 0 1 2;stuff 1 1 2");
        Check.due("plan", x.plan(5, 1), 1);
        Check.due("planned", x.cellOf(5, 2), 1);
        Check.due("no stuff", x.plan(5, 2), -1);
        Check.due("no stuff", x.plan(5, -2), -1);
        Check.due("no cell", x.plan(24, 0), -1);
        Check.due("no cell", x.plan(-1, -1), -1);
        Check.due("still planned", x.cellOf(5, 2), 1);
        Check.due("a plan stays when the cell is laid", x.lay(5, 0), 1);
        Check.due("a plan stays when the cell is laid", x.cellOf(5, 2), 1);
        Check.due("a plan for a laid cell", x.plan(5, 0), 1);
        Check.due("no plan", x.plan(5, -1), 0);
        Check.due("no plan", x.cellOf(5, 2), -1);
        Check.refusals(x, 4, 0, 0, 0, 0, 0, 0);
    }

    private static void villageTellsAll() {
        PetalPictures x = new PetalPictures();
        Check.tell(x, "stuff 2 07 09;cell 3 7;cell 03 06;plan 23 0;side 2;lay 23 00;hours 09;spray;hours 1");
        Check.due("kind", x.stuffOf(0, 0), 2);
        Check.due("colour", x.stuffOf(0, 1), 7);
        Check.due("a", x.stuffOf(0, 2), 9);
        Check.due("drawn twice", x.cellOf(3, 0), 6);
        int[] due = {-1, 0, 0, 10, 0, 1};
        for (int what = 0; what < 6; what++) {
            Check.due("cellOf(23, " + what + ")", x.cellOf(23, what), due[what]);
        }
        int[] status = {1, 1, 50, 2, 10, 0, 1};
        for (int what = 0; what < status.length; what++) {
            Check.due("status(" + what + ")", x.status(what), status[what]);
        }
        Check.tell(x, "spray");
        Check.due("told over what there is", x.cellOf(23, 5), 2);
        Check.tell(x, "hours 99;hours 99");
        Check.due("hours", x.status(4), 208);
        Check.tell(x, "side 1;side 0");
        Check.due("side 0", x.status(3), 0);
        Check.tell(x, "plan 0 0;plan 22 0;cell 0 1;cell 23 1;lay 22 0;lay 0 0");
        Check.due("first and last numbers", x.cellOf(0, 0) + 10 * x.cellOf(0, 1) + 100 * x.cellOf(0, 2), 1);
        Check.due("nothing refused", x.status(16), 0);
    }

    private static void villageOfLongs() {
        PetalPictures x = new PetalPictures();
        String text = "side 2";
        for (int sort = 1; sort < 4; sort++) {
            x.row(0, sort, text.length());
            for (int i = 0; i < text.length(); i++) {
                x.set(0, i, text.charAt(i) + (sort == 3 ? 5L << 32 : 0));
            }
            x.side(0);
            Check.due("village by sort " + sort, x.village(0), 1);
            Check.due("side by sort " + sort, x.status(3), 2);
        }
        x.row(0, 2, 6);
        for (int i = 0; i < 6; i++) {
            x.set(0, i, text.charAt(i) + (i == 3 ? 65536 : 0));
        }
        Check.due("another letter", x.village(0), -6);
        Check.due("another letter", x.fault(), 3);
    }

    private static void villageRefusals() {
        PetalPictures x = Check.told("stuff 0 0 0");
        Check.due("no shelf", x.village(8), -1);
        Check.due("no shelf", x.village(-1), -1);
        Check.due("nothing", x.village(0), -3);
        x.show(0, 0);
        Check.due("a stuff", x.village(0), -2);
        x.row(0, 0, 0);
        Check.due("no letters", x.village(0), -6);
        Check.due("no letters", x.fault(), 0);
        Check.refusals(x, 2, 1, 1, 0, 0, 1, 0);
    }

    private static void faultsOfWords() {
        PetalPictures x = Check.told("stuff 0 0 0");
        Check.faulty(x, "x", 0);
        Check.faulty(x, " spray", 0);
        Check.faulty(x, "Spray", 0);
        Check.faulty(x, ";", 0);
        Check.faulty(x, "s", 1);
        Check.faulty(x, "sx", 1);
        Check.faulty(x, "stide 1", 2);
        Check.faulty(x, "sprat", 4);
        Check.faulty(x, "spra", 4);
        Check.faulty(x, "sit", 2);
        Check.faulty(x, "pay", 1);
        Check.faulty(x, "lan", 2);
        Check.faulty(x, "cel 0 0", 3);
        Check.faulty(x, "hour 1", 4);
        Check.faulty(x, "spray ", 5);
        Check.faulty(x, "sprays", 5);
        Check.faulty(x, "spray;", 6);
        Check.faulty(x, "spray;;spray", 6);
        Check.faulty(x, "spray; spray", 6);
        Check.faulty(x, "spray;spray 1", 11);
        Check.faulty(x, "stuff", 5);
        Check.faulty(x, "stuff;", 5);
        Check.faulty(x, "stuffs", 5);
        Check.faulty(x, "side1", 4);
    }

    private static void faultsOfNumbers() {
        PetalPictures x = Check.told("stuff 0 0 0;stuff 0 0 0");
        Check.faulty(x, "stuff ", 6);
        Check.faulty(x, "stuff  0", 6);
        Check.faulty(x, "stuff x", 6);
        Check.faulty(x, "stuff -1", 6);
        Check.faulty(x, "stuff 7 0 0", 6);
        Check.faulty(x, "stuff 07 0 0", 6);
        Check.faulty(x, "stuff 10 0 0", 6);
        Check.faulty(x, "stuff 000 0 0", 8);
        Check.faulty(x, "stuff 0", 7);
        Check.faulty(x, "stuff 0 ", 8);
        Check.faulty(x, "stuff 0;", 7);
        Check.faulty(x, "stuff 0 8 0", 8);
        Check.faulty(x, "stuff 00 08 0", 9);
        Check.faulty(x, "stuff 0 0", 9);
        Check.faulty(x, "stuff 0 0 10", 10);
        Check.faulty(x, "stuff 0 0 091", 12);
        Check.faulty(x, "stuff 0 0 0 ", 11);
        Check.faulty(x, "stuff 0 0 0 0", 11);
        Check.faulty(x, "stuff 0 0 0;", 12);
        Check.faulty(x, "cell 24 0", 5);
        Check.faulty(x, "cell 99", 5);
        Check.faulty(x, "cell 230", 7);
        Check.faulty(x, "cell 240", 5);
        Check.faulty(x, "cell 0 8", 7);
        Check.faulty(x, "cell 0 -1", 7);
        Check.faulty(x, "plan 24 0", 5);
        Check.faulty(x, "plan 0 2", 7);
        Check.faulty(x, "plan 0 10", 7);
        Check.faulty(x, "side 3", 5);
        Check.faulty(x, "side 02x", 7);
        Check.faulty(x, "hours 0", 6);
        Check.faulty(x, "hours 00", 6);
        Check.faulty(x, "hours 0;spray", 6);
        Check.faulty(x, "hours 100", 8);
        Check.faulty(x, "hours 99,", 8);
        Check.faulty(new PetalPictures(), "plan 0 0", 7);
        Check.faulty(new PetalPictures(), "plan 0 ", 7);
    }

    private static void faultsOfRoom() {
        PetalPictures x = Check.told("stuff 0 0 0;stuff 0 0 0;stuff 0 0 0;stuff 0 0 0;stuff 0 0 0;stuff 0 0 0;stuff 0 0 0");
        Check.faulty(x, "stuff 0 0 0;stuff 0 0 0", 12);
        Check.due("none came", x.status(0), 7);
        Check.tell(x, "stuff 1 1 1");
        Check.faulty(x, "stuff 0 0 0", 0);
        Check.faulty(x, "stuff", 0);
        Check.faulty(x, "stuffx", 0);
        Check.faulty(x, "stuff 9", 0);
        Check.faulty(x, "stuf", 4);
        Check.faulty(x, "stufx", 4);
        Check.faulty(x, "spray;stuff 0 0 0", 6);
        Check.due("a fault is wrong, not room", x.status(17), 0);
    }

    private static void faultsOfLayings() {
        PetalPictures x = Check.told("stuff 0 0 0;cell 20 0;lay 23 0");
        Check.faulty(x, "lay 16 0", 4);
        Check.faulty(x, "lay 16 9", 4);
        Check.faulty(x, "lay 16", 4);
        Check.faulty(x, "lay 23 0", 4);
        Check.faulty(x, "lay 24 0", 4);
        Check.faulty(x, "lay 20 1", 7);
        Check.faulty(x, "lay 20", 6);
        Check.faulty(x, "lay 20 0;lay 20 0", 13);
        Check.faulty(x, "lay 20 0;lay 12 0;cell 16 1;lay 08 0;lay 12 0", 41);
        Check.tell(x, "lay 20 0;lay 16 0");
        Check.due("three", x.status(1), 3);
    }

    private static void faultsChangeNothing() {
        PetalPictures x = Check.told("stuff 0 0 0;cell 5 3;lay 20 0");
        Check.faulty(x, "stuff 1 1 1;cell 5 4;plan 6 1;lay 21 1;side 2;spray;hours 9;spry", 63);
        Check.due("stuffs", x.status(0), 1);
        Check.due("colour", x.cellOf(5, 0), 3);
        Check.due("plan", x.cellOf(6, 2), -1);
        Check.due("laid", x.status(1), 1);
        Check.due("side", x.status(3), 0);
        Check.due("wet", x.status(2), 60);
        Check.due("hour", x.status(4), 0);
        Check.due("sprays", x.cellOf(20, 5), 0);
        Check.due("hours", x.cellOf(20, 4), 0);
    }

    private static void faultStays() {
        PetalPictures x = new PetalPictures();
        Check.faulty(x, "lay", 3);
        Check.due("no row", x.village(0), -3);
        Check.due("the fault stays", x.fault(), 3);
        Check.due("no shelf", x.village(8), -1);
        Check.due("the fault stays", x.fault(), 3);
        x.image();
        x.restore();
        Check.due("the fault stays", x.fault(), 3);
        Check.tell(x, "spray");
        Check.due("no fault now", x.fault(), -1);
    }
}
