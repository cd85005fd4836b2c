import java.util.Arrays;

/**
 * Pictures out of petals on a board of clay, as ../shared/DOC.md promises them. This class is the
 * face: it looks at the arguments, refuses what can't be, and leaves the rest to the classes inside.
 */
public final class PetalPictures {
    public static final int NONE = -1;

    private static final int NOBODY = -1;
    private static final int OTHER = -2;
    private static final int NOTHING = -3;
    private static final int BELOW = -4;
    private static final int BEYOND = -5;
    private static final int WRONG = -6;
    private static final int ROOM = -7;
    private static final int REFUSALS = 7;
    /** Added to a refusal where the refusal alone could be taken for an answer (NONE is -1, too). */
    private static final int APART = -10;

    private static final int PETAL = 0;
    private static final int SEED = 1;
    private static final int MOSS = 2;
    private static final int LICHEN = 3;
    private static final int BLUE = 4;
    private static final int FINE = 5;
    private static final int FERN = 6;
    private static final int KINDS = 7;

    private static final int STUFFS = 8;
    private static final int COLOURS = 8;
    private static final int MOST_A = 9;
    private static final int ROWS = 6;
    private static final int COLUMNS = 4;
    private static final int CELLS = ROWS * COLUMNS;
    private static final int SIDES = 3;
    private static final int SHELVES = 8;
    private static final int MOST_HOURS = 240;

    private final Shelf[] shelves = new Shelf[SHELVES];
    private final Board board = new Board();
    /** What is tried on it (a text, a told laying) leaves the board as it is. */
    private final Board draft = new Board();
    private final Board image = new Board();
    private boolean imageTaken;
    private final Village reader = new Village();
    private int latestFault = NONE;
    private final Work work = new Work();
    private final Acts acts = new Acts();
    private final int[] refused = new int[REFUSALS];

    public PetalPictures() {
        for (int s = 0; s < SHELVES; s++) {
            shelves[s] = new Shelf();
        }
    }

    // ---- shelves

    public int row(int s, int sort, int n) {
        Shelf shelf = shelfAt(s);
        if (shelf == null) {
            return refuse(NOBODY);
        }
        if (n < 0) {
            return refuse(BELOW);
        }
        if (sort < 0 || sort >= Shelf.SORTS) {
            return refuse(WRONG);
        }
        if (n > Shelf.MOST) {
            return refuse(ROOM);
        }
        shelf.takeRow(sort, n);
        return 1;
    }

    public int set(int s, int i, long v) {
        Shelf shelf = shelfAt(s);
        if (shelf == null) {
            return refuse(NOBODY);
        }
        int trouble = shelf.rowTrouble();
        if (trouble != 0) {
            return refuse(trouble);
        }
        if (!shelf.hasElement(i)) {
            return refuse(BEYOND);
        }
        shelf.put(i, v);
        return 1;
    }

    public int copy(int p, int q, int i, int j, int n) {
        Shelf from = shelfAt(p);
        Shelf to = shelfAt(q);
        if (from == null || to == null) {
            return refuse(NOBODY);
        }
        if (from.holdsStuff() || to.holdsStuff() || from.isOfOtherSort(to)) {
            return refuse(OTHER);
        }
        if (!from.holdsRow() || !to.holdsRow()) {
            return refuse(NOTHING);
        }
        if (n < 0) {
            return refuse(BELOW);
        }
        if (!from.hasElements(i, n) || !to.hasElements(j, n)) {
            return refuse(BEYOND);
        }
        from.copyTo(to, i, j, n);
        return 1;
    }

    public long element(int s, int i) {
        Shelf shelf = shelfAt(s);
        return shelf == null ? 0 : shelf.elementAt(i);
    }

    public int show(int s, int stuff) {
        Shelf shelf = shelfAt(s);
        if (shelf == null || stuff != NONE && !board.isStuff(stuff)) {
            return refuse(NOBODY);
        }
        if (stuff == NONE) {
            shelf.takeNothing();
            return 0;
        }
        shelf.takeStuff(stuff);
        return 1;
    }

    public int holds(int s) {
        Shelf shelf = shelfAt(s);
        return shelf == null ? NONE : shelf.told();
    }

    public int says(int s, int kind) {
        Shelf shelf = shelfAt(s);
        if (shelf == null || kind < 0 || kind >= KINDS) {
            return refuse(NOBODY);
        }
        if (shelf.holdsRow()) {
            return refuse(OTHER);
        }
        if (!shelf.holdsStuff()) {
            return refuse(NOTHING);
        }
        int stuff = shelf.stuffHeld();
        if (!Kind.isUnder(board.kindOf(stuff), kind)) {
            return refuse(OTHER);
        }
        return saidAs(stuff, kind);
    }

    // ---- stuffs and the drawing

    public int stuff(int kind, int colour, int a) {
        if (kind < 0 || kind >= KINDS) {
            return refuse(NOBODY);
        }
        if (colour < 0 || colour >= COLOURS || a < 0 || a > MOST_A) {
            return refuse(WRONG);
        }
        if (!board.hasRoom()) {
            return refuse(ROOM);
        }
        return board.addStuff(kind, colour, a);
    }

    public int stuffOf(int stuff, int what) {
        if (!board.isStuff(stuff)) {
            return refuse(BEYOND);
        }
        switch (what) {
            case 0: return board.kindOf(stuff);
            case 1: return board.colourOf(stuff);
            case 2: return board.aOf(stuff);
            default: return refuse(BEYOND);
        }
    }

    public int cell(int cell, int colour) {
        if (!isCell(cell)) {
            return refuse(NOBODY);
        }
        if (colour < NONE || colour >= COLOURS) {
            return refuse(WRONG);
        }
        board.draw(cell, colour);
        return colour == NONE ? 0 : 1;
    }

    public int cellOf(int cell, int what) {
        if (!isCell(cell)) {
            return refuse(APART + BEYOND);
        }
        switch (what) {
            case 0: return board.drawnAt(cell);
            case 1: return board.laidAt(cell);
            case 2: return board.plannedAt(cell);
            case 3: return board.sunAt(cell);
            case 4: return board.shadeAt(cell);
            case 5: return board.spraysAt(cell);
            default: return refuse(APART + BEYOND);
        }
    }

    public int plan(int cell, int stuff) {
        if (!isCell(cell) || stuff != NONE && !board.isStuff(stuff)) {
            return refuse(NOBODY);
        }
        board.planFor(cell, stuff);
        return stuff == NONE ? 0 : 1;
    }

    public int village(int s) {
        Shelf shelf = shelfAt(s);
        if (shelf == null) {
            return refuse(NOBODY);
        }
        int trouble = shelf.rowTrouble();
        if (trouble != 0) {
            return refuse(trouble);
        }
        draft.becomeLike(board);
        int items = reader.tell(shelf, draft);
        latestFault = reader.faultFound();
        if (latestFault != NONE) {
            return refuse(WRONG);
        }
        board.becomeLike(draft);
        return items;
    }

    public int fault() {
        return latestFault;
    }

    // ---- in truth

    public int may(int cell) {
        if (!isCell(cell)) {
            return refuse(NOBODY);
        }
        return board.mayBeLaid(cell) ? 1 : 0;
    }

    public int lay(int cell, int stuff) {
        if (!isCell(cell) || !board.isStuff(stuff)) {
            return refuse(NOBODY);
        }
        if (!board.mayBeLaid(cell)) {
            return refuse(WRONG);
        }
        board.layOn(cell, stuff);
        return board.laidCount();
    }

    public int strip(int cell) {
        if (!isCell(cell)) {
            return refuse(NOBODY);
        }
        int was = board.laidAt(cell);
        if (was == NONE) {
            return refuse(WRONG);
        }
        board.makeBare(cell);
        return was;
    }

    public int spray() {
        board.sprayOnce();
        return board.wetness();
    }

    public int side(int v) {
        if (v < 0 || v >= SIDES) {
            return refuse(WRONG);
        }
        int was = board.sunnySide();
        board.turnTo(v);
        return was;
    }

    public int hours(int n) {
        if (n < 1 || n > MOST_HOURS) {
            return refuse(WRONG);
        }
        board.passHours(n);
        return board.hourNow();
    }

    // ---- in thought

    public int fresh(int cell, int n) {
        if (!isCell(cell)) {
            return refuse(NOBODY);
        }
        if (!isHour(n)) {
            return refuse(WRONG);
        }
        return Thought.freshBehind(board, cell, board.sunnySide(), n);
    }

    public int beauty(int cell, int n) {
        if (!isCell(cell)) {
            return refuse(NOBODY);
        }
        if (!isHour(n)) {
            return refuse(WRONG);
        }
        return Thought.beautyBehind(board, cell, board.sunnySide(), n);
    }

    public int looks(int n) {
        if (!isHour(n)) {
            return refuse(WRONG);
        }
        return Thought.looksBehind(board, board.sunnySide(), n);
    }

    public int worst(int f, int t) {
        if (!areHours(f, t)) {
            return refuse(WRONG);
        }
        return Thought.worstHour(board, f, t);
    }

    public int all(int f, int t) {
        if (!areHours(f, t)) {
            return refuse(WRONG);
        }
        return Thought.looksTogether(board, board.sunnySide(), f, t);
    }

    public int best(int cell, int f, int t, int how) {
        if (!isCell(cell)) {
            return refuse(APART + NOBODY);
        }
        if (how != Thought.TOGETHER && how != Thought.AT_WORST) {
            return refuse(APART + BEYOND);
        }
        if (!areHours(f, t)) {
            return refuse(APART + WRONG);
        }
        return Thought.bestStuff(board, cell, f, t, how);
    }

    public int turn(int f, int t) {
        if (!areHours(f, t)) {
            return refuse(WRONG);
        }
        return Thought.bestSide(board, f, t);
    }

    public int next() {
        return Thought.nextCell(board);
    }

    public int done(int w) {
        if (w < 1 || w > Work.MOST_WOMEN) {
            return refuse(WRONG);
        }
        return work.lastMinute(board, w);
    }

    public int women(int minute) {
        if (minute < 0 || minute > Work.MOST_MINUTE) {
            return refuse(APART + WRONG);
        }
        for (int w = 1; w <= Work.MOST_WOMEN; w++) {
            if (work.lastMinute(board, w) <= minute) {
                return w;
            }
        }
        return NONE;
    }

    public int dry() {
        return Thought.firstDryHour(board);
    }

    public int sprayings(int n) {
        if (!isHour(n)) {
            return refuse(WRONG);
        }
        return Thought.spraysNeeded(board, n);
    }

    public int was(int sun, int shade, int sprays, int fresh) {
        boolean canBe = isHour(sun) && isHour(shade) && sprays >= 0 && sprays <= Thought.MOST_SPRAYS_TOLD
                && fresh >= 0 && fresh <= Kind.MOST_FRESH;
        if (!canBe) {
            return refuse(WRONG);
        }
        return Thought.stuffsAsFresh(board, sun, shade, sprays, fresh);
    }

    public int age(int s, int n) {
        Shelf shelf = shelfAt(s);
        if (shelf == null) {
            return refuse(APART + NOBODY);
        }
        int trouble = tellingTrouble(shelf, n);
        if (trouble != 0) {
            return refuse(APART + trouble);
        }
        if (n != board.laidCount()) {
            return refuse(APART + WRONG);
        }
        return Thought.hourAsTold(board, shelf);
    }

    public int lacking() {
        return Thought.coloursLacking(board);
    }

    public int wrong() {
        return Thought.cellsWrong(board);
    }

    public int judge(int s, int n) {
        Shelf shelf = shelfAt(s);
        if (shelf == null) {
            return refuse(APART + NOBODY);
        }
        int trouble = tellingTrouble(shelf, n);
        if (trouble != 0) {
            return refuse(APART + trouble);
        }
        if (n > Thought.MOST_LAYINGS_TOLD) {
            return refuse(APART + WRONG);
        }
        draft.becomeLike(board);
        return Thought.firstBadLaying(draft, shelf, n);
    }

    // ---- draws, acts, the image

    public int days(int n) {
        if (n < 1 || n > Board.MOST_DAYS) {
            return refuse(WRONG);
        }
        return board.passDays(n);
    }

    public int seed(int v) {
        int was = board.seedNow();
        board.sow(v);
        return was;
    }

    public int act(int stuff, int act, int x) {
        if (!board.isStuff(stuff) || act < 0 || act >= Acts.ACTS) {
            acts.forget();
            return 0;
        }
        return acts.perform(board, stuff, act, x);
    }

    public int trace(int i) {
        return acts.bodyAt(i);
    }

    public int image() {
        image.becomeLike(board);
        imageTaken = true;
        return image.stuffCount();
    }

    public int restore() {
        if (!imageTaken) {
            return refuse(WRONG);
        }
        board.becomeLike(image);
        for (int s = 0; s < SHELVES; s++) {
            Shelf shelf = shelfAt(s);
            if (shelf != null && shelf.holdsStuff() && !board.isStuff(shelf.stuffHeld())) {
                shelf.takeNothing();
            }
        }
        return board.stuffCount();
    }

    public int status(int what) {
        switch (what) {
            case 0: return board.stuffCount();
            case 1: return board.laidCount();
            case 2: return board.wetness();
            case 3: return board.sunnySide();
            case 4: return board.hourNow();
            case 5: return board.crackCount();
            case 6: return board.seedNow();
            case 7: return acts.bodiesRun();
            default: return refusalsOf(what - 11);
        }
    }

    // ---- what the face asks of itself

    private Shelf shelfAt(int s) {
        return s < 0 || s >= shelves.length ? null : shelves[s];
    }

    private static boolean isCell(int cell) {
        return cell >= 0 && cell < CELLS;
    }

    private static boolean isHour(int n) {
        return n >= 0 && n <= MOST_HOURS;
    }

    private static boolean areHours(int f, int t) {
        return f >= 0 && f <= t && t <= MOST_HOURS;
    }

    /** Counts a refusal, told apart (-11 to -16) or not (-1 to -7), and answers it. */
    private int refuse(int answer) {
        int number = answer < APART ? answer - APART : answer;
        int place = -1 - number;
        if (place >= 0 && place < refused.length) {
            refused[place]++;
        }
        return answer;
    }

    private int refusalsOf(int place) {
        return place < 0 || place >= refused.length ? NONE : refused[place];
    }

    /** Why the first n elements of a shelf can't tell anything: a refusal, 0 if they can. */
    private static int tellingTrouble(Shelf shelf, int n) {
        int trouble = shelf.rowTrouble();
        if (trouble != 0) {
            return trouble;
        }
        if (n < 0) {
            return BELOW;
        }
        return shelf.hasElements(0, n) ? 0 : BEYOND;
    }

    private int saidAs(int stuff, int kind) {
        switch (kind) {
            case PETAL: return board.colourOf(stuff);
            case SEED: return board.cellsLaidWith(stuff);
            case MOSS: return board.cellsPlannedWith(stuff);
            case FERN: return board.aOf(stuff);
            default: return Kind.freshness(board.kindOf(stuff), board.aOf(stuff), 24, 0, 2);
        }
    }

    /** Of the kinds of stuffs: which is under which, and how each fades. */
    private static final class Kind {
        static final int MOST_FRESH = 9;
        private static final int SEED_KEEPS = 12;
        private static final int MOSS_KEEPS = 6;
        private static final int FERN_LASTS = 48;
        private static final int[] ABOVE = {NONE, PETAL, PETAL, SEED, PETAL, BLUE, MOSS};

        static int above(int kind) {
            return kind < 0 || kind >= ABOVE.length ? NONE : ABOVE[kind];
        }

        /** Whether a kind is the wanted one or one under it. */
        static boolean isUnder(int kind, int wanted) {
            int at = kind;
            for (int step = 0; step < KINDS && at != NONE; step++) {
                if (at == wanted) {
                    return true;
                }
                at = above(at);
            }
            return false;
        }

        /** Below 0 as long as a stuff keeps wholly: that is no brown, either. */
        private static int brown(int kind, int sun, int shade, int sprays) {
            int h = sun + shade;
            switch (kind) {
                case PETAL: return h;
                case SEED: return h - SEED_KEEPS;
                case MOSS:
                case FERN: return h - MOSS_KEEPS * sprays;
                case BLUE:
                case FINE: return h + sun;
                case LICHEN:
                default: return 0;
            }
        }

        static int freshness(int kind, int a, int sun, int shade, int sprays) {
            int part = a + 1;
            if (part < 1 || kind == FERN && sun + shade > FERN_LASTS) {
                return 0;
            }
            int left = MOST_FRESH - Math.max(0, brown(kind, sun, shade, sprays)) / part;
            return Math.max(0, kind == FINE ? left - sprays : left);
        }
    }

    /** A shelf: it holds nothing, a row, or the number of a stuff. */
    private static final class Shelf {
        static final int MOST = 160;
        static final int SORTS = 4;
        private static final int BYTES = 0;
        private static final int SHORTS = 1;
        private static final int INTS = 2;
        private static final int ROW_TOLD = 100;

        private static final int HOLDS_NOTHING = 0;
        private static final int HOLDS_ROW = 1;
        private static final int HOLDS_STUFF = 2;

        /** Made once and used for every row here, so that rows cost nothing in the room. */
        private final long[] elements = new long[MOST];
        private int content = HOLDS_NOTHING;
        private int sort;
        /** 0 where there is no row, so that no element is there then. */
        private int size;
        private int stuffNumber;

        boolean holdsRow() {
            return content == HOLDS_ROW;
        }

        boolean holdsStuff() {
            return content == HOLDS_STUFF;
        }

        int stuffHeld() {
            return holdsStuff() ? stuffNumber : NONE;
        }

        int rowSize() {
            return size;
        }

        int told() {
            return holdsRow() ? ROW_TOLD + sort : stuffHeld();
        }

        /** Why no row is to be had from here: a refusal, 0 if there is one. */
        int rowTrouble() {
            if (holdsStuff()) {
                return OTHER;
            }
            return holdsRow() ? 0 : NOTHING;
        }

        boolean isOfOtherSort(Shelf other) {
            return holdsRow() && other.holdsRow() && sort != other.sort;
        }

        void takeNothing() {
            content = HOLDS_NOTHING;
            size = 0;
        }

        void takeStuff(int stuff) {
            content = HOLDS_STUFF;
            size = 0;
            stuffNumber = stuff;
        }

        void takeRow(int newSort, int n) {
            content = HOLDS_ROW;
            sort = newSort;
            size = Math.max(0, Math.min(n, MOST));
            Arrays.fill(elements, 0L);
        }

        boolean hasElement(int i) {
            return i >= 0 && i < size && i < elements.length;
        }

        /** Whether n elements (0 or more) stand from element i on. */
        boolean hasElements(int i, int n) {
            return i >= 0 && n >= 0 && n <= size && i <= size - n;
        }

        void put(int i, long v) {
            if (hasElement(i)) {
                elements[i] = cut(v);
            }
        }

        private long cut(long v) {
            switch (sort) {
                case BYTES: return (byte) v;
                case SHORTS: return (short) v;
                case INTS: return (int) v;
                default: return v;
            }
        }

        long elementAt(int i) {
            return hasElement(i) ? elements[i] : 0;
        }

        /** Element i as rows tell things: of longs the lowest 32 bits. */
        int toldAt(int i) {
            return (int) elementAt(i);
        }

        void copyTo(Shelf to, int i, int j, int n) {
            if (hasElements(i, n) && to.hasElements(j, n)) {
                System.arraycopy(elements, i, to.elements, j, n);
            }
        }
    }

    /** All that the image has: the stuffs, the cells, the clay and the seed; and what happens in truth. */
    private static final class Board {
        static final int MOST_DAYS = 20;
        private static final int FIRST_WET = 60;
        private static final int MOST_WET = 99;
        private static final int SPRAY_WETS = 10;
        private static final int HOURS_OF_A_DAY = 24;
        private static final int WET_ENOUGH = 30;

        private final int[] kinds = new int[STUFFS];
        private final int[] colours = new int[STUFFS];
        private final int[] as = new int[STUFFS];
        private int stuffs;
        private final int[] drawing = new int[CELLS];
        private final int[] laid = new int[CELLS];
        private final int[] planned = new int[CELLS];
        private final int[] sun = new int[CELLS];
        private final int[] shade = new int[CELLS];
        private final int[] sprays = new int[CELLS];
        private int sunny;
        private int wet = FIRST_WET;
        private int hour;
        private int cracks;
        private int draws = 1;

        Board() {
            Arrays.fill(drawing, NONE);
            Arrays.fill(laid, NONE);
            Arrays.fill(planned, NONE);
        }

        void becomeLike(Board other) {
            System.arraycopy(other.kinds, 0, kinds, 0, STUFFS);
            System.arraycopy(other.colours, 0, colours, 0, STUFFS);
            System.arraycopy(other.as, 0, as, 0, STUFFS);
            stuffs = other.stuffs;
            System.arraycopy(other.drawing, 0, drawing, 0, CELLS);
            System.arraycopy(other.laid, 0, laid, 0, CELLS);
            System.arraycopy(other.planned, 0, planned, 0, CELLS);
            System.arraycopy(other.sun, 0, sun, 0, CELLS);
            System.arraycopy(other.shade, 0, shade, 0, CELLS);
            System.arraycopy(other.sprays, 0, sprays, 0, CELLS);
            sunny = other.sunny;
            wet = other.wet;
            hour = other.hour;
            cracks = other.cracks;
            draws = other.draws;
        }

        // stuffs

        boolean isStuff(int stuff) {
            return stuff >= 0 && stuff < stuffs && stuff < STUFFS;
        }

        int stuffCount() {
            return stuffs;
        }

        boolean hasRoom() {
            return stuffs >= 0 && stuffs < STUFFS;
        }

        /** The number of the new stuff; NONE if there is no room. */
        int addStuff(int kind, int colour, int a) {
            if (!hasRoom()) {
                return NONE;
            }
            kinds[stuffs] = kind;
            colours[stuffs] = colour;
            as[stuffs] = a;
            stuffs++;
            return stuffs - 1;
        }

        int kindOf(int stuff) {
            return isStuff(stuff) ? kinds[stuff] : NONE;
        }

        int colourOf(int stuff) {
            return isStuff(stuff) ? colours[stuff] : NONE;
        }

        int aOf(int stuff) {
            return isStuff(stuff) ? as[stuff] : 0;
        }

        int cellsLaidWith(int stuff) {
            return countOf(laid, stuff);
        }

        int cellsPlannedWith(int stuff) {
            return countOf(planned, stuff);
        }

        private static int countOf(int[] numbers, int wanted) {
            int count = 0;
            for (int number : numbers) {
                if (number == wanted) {
                    count++;
                }
            }
            return count;
        }

        // cells

        int drawnAt(int cell) {
            return isCell(cell) ? drawing[cell] : NONE;
        }

        int laidAt(int cell) {
            return isCell(cell) ? laid[cell] : NONE;
        }

        int plannedAt(int cell) {
            return isCell(cell) ? planned[cell] : NONE;
        }

        int sunAt(int cell) {
            return isCell(cell) ? sun[cell] : 0;
        }

        int shadeAt(int cell) {
            return isCell(cell) ? shade[cell] : 0;
        }

        int spraysAt(int cell) {
            return isCell(cell) ? sprays[cell] : 0;
        }

        int laidCount() {
            return CELLS - countOf(laid, NONE);
        }

        boolean isPlannedBare(int cell) {
            return isCell(cell) && laid[cell] == NONE && planned[cell] != NONE;
        }

        void draw(int cell, int colour) {
            if (isCell(cell)) {
                drawing[cell] = colour;
            }
        }

        void planFor(int cell, int stuff) {
            if (isCell(cell)) {
                planned[cell] = stuff;
            }
        }

        /** A cell's colour and what is laid are both NONE below the lowest row: there all may be laid. */
        boolean mayBeLaid(int cell) {
            if (!isCell(cell) || laid[cell] != NONE) {
                return false;
            }
            int below = cell + COLUMNS;
            return laidAt(below) != NONE || drawnAt(below) == NONE;
        }

        void layOn(int cell, int stuff) {
            takeOver(cell, stuff);
        }

        void makeBare(int cell) {
            takeOver(cell, NONE);
        }

        private void takeOver(int cell, int stuff) {
            if (isCell(cell)) {
                laid[cell] = stuff;
                sun[cell] = 0;
                shade[cell] = 0;
                sprays[cell] = 0;
            }
        }

        // the clay and the time

        int wetness() {
            return wet;
        }

        int sunnySide() {
            return sunny;
        }

        int hourNow() {
            return hour;
        }

        int crackCount() {
            return cracks;
        }

        void turnTo(int newSide) {
            sunny = newSide;
        }

        /** What an hour takes from the wet of the clay. */
        int driedByAnHour() {
            return sunny == 0 ? 1 : 2;
        }

        static int wetBySpray(int wetBefore) {
            return Math.min(MOST_WET, wetBefore + SPRAY_WETS);
        }

        /** Side 1 has the sun on columns 0 and 1, side 2 on columns 2 and 3. */
        static boolean isInSun(int cell, int atSide) {
            int half = cell % COLUMNS < 2 ? 1 : 2;
            return atSide == half;
        }

        void sprayOnce() {
            wet = wetBySpray(wet);
            for (int c = 0; c < CELLS; c++) {
                if (laid[c] != NONE) {
                    sprays[c]++;
                }
            }
        }

        void passHours(int n) {
            for (int c = 0; c < CELLS; c++) {
                if (laid[c] == NONE) {
                    continue;
                }
                if (isInSun(c, sunny)) {
                    sun[c] += n;
                } else {
                    shade[c] += n;
                }
            }
            for (int i = 0; i < n; i++) {
                dryForAnHour();
            }
            hour += n;
        }

        private void dryForAnHour() {
            wet = Math.max(0, wet - driedByAnHour());
            if (wet == 0) {
                cracks++;
            }
        }

        // days by draws

        int seedNow() {
            return draws;
        }

        void sow(int v) {
            draws = v;
        }

        private int drawBelow(int n) {
            draws = draws * 1103515245 + 12345;
            return n < 1 ? 0 : (draws >>> 16) % n;
        }

        /** How many cracks there are more behind n days. */
        int passDays(int n) {
            int before = cracks;
            for (int day = 0; day < n; day++) {
                turnTo(drawBelow(SIDES));
                passHours(HOURS_OF_A_DAY);
                if (wet < WET_ENOUGH) {
                    sprayOnce();
                }
                makeBare(drawBelow(CELLS));
            }
            return cracks - before;
        }
    }

    /** What comes of a board: all in thought, so nothing of it is changed (but of a draft that is given for it). */
    private static final class Thought {
        static final int TOGETHER = 0;
        static final int AT_WORST = 1;
        static final int MOST_SPRAYS_TOLD = 20;
        static final int MOST_LAYINGS_TOLD = 40;
        private static final int LAYING_BASE = 10;

        static int freshBehind(Board board, int cell, int atSide, int n) {
            int stuff = board.laidAt(cell);
            if (stuff == NONE) {
                return 0;
            }
            boolean inSun = Board.isInSun(cell, atSide);
            int sun = board.sunAt(cell) + (inSun ? n : 0);
            int shade = board.shadeAt(cell) + (inSun ? 0 : n);
            return Kind.freshness(board.kindOf(stuff), board.aOf(stuff), sun, shade, board.spraysAt(cell));
        }

        /** A stuff always has a colour, so where the drawing has none, nothing that is laid has its colour. */
        private static boolean hasItsColour(Board board, int cell) {
            int stuff = board.laidAt(cell);
            return stuff != NONE && board.colourOf(stuff) == board.drawnAt(cell);
        }

        static int beautyBehind(Board board, int cell, int atSide, int n) {
            return hasItsColour(board, cell) ? freshBehind(board, cell, atSide, n) : 0;
        }

        static int looksBehind(Board board, int atSide, int n) {
            int looks = 0;
            for (int c = 0; c < CELLS; c++) {
                if (hasItsColour(board, c)) {
                    looks += freshBehind(board, c, atSide, n);
                }
            }
            return looks;
        }

        static int worstHour(Board board, int f, int t) {
            int worst = f;
            int least = looksBehind(board, board.sunnySide(), f);
            for (int n = f + 1; n <= t; n++) {
                int looks = looksBehind(board, board.sunnySide(), n);
                if (looks < least) {
                    least = looks;
                    worst = n;
                }
            }
            return worst;
        }

        static int looksTogether(Board board, int atSide, int f, int t) {
            int together = 0;
            for (int n = f; n <= t; n++) {
                together += looksBehind(board, atSide, n);
            }
            return together;
        }

        static int bestSide(Board board, int f, int t) {
            int best = 0;
            int most = looksTogether(board, 0, f, t);
            for (int atSide = 1; atSide < SIDES; atSide++) {
                int together = looksTogether(board, atSide, f, t);
                if (together > most) {
                    most = together;
                    best = atSide;
                }
            }
            return best;
        }

        static int bestStuff(Board board, int cell, int f, int t, int how) {
            int best = NONE;
            int most = NONE;
            for (int stuff = 0; stuff < board.stuffCount(); stuff++) {
                if (board.colourOf(stuff) != board.drawnAt(cell)) {
                    continue;
                }
                boolean inSun = Board.isInSun(cell, board.sunnySide());
                int worth = worthLaidNow(board, stuff, inSun, f, t, how);
                if (worth > most) {
                    most = worth;
                    best = stuff;
                }
            }
            return best;
        }

        private static int worthLaidNow(Board board, int stuff, boolean inSun, int f, int t, int how) {
            int together = 0;
            int least = Kind.MOST_FRESH;
            for (int n = f; n <= t; n++) {
                int fresh = Kind.freshness(board.kindOf(stuff), board.aOf(stuff), inSun ? n : 0, inSun ? 0 : n, 0);
                together += fresh;
                least = Math.min(least, fresh);
            }
            return how == TOGETHER ? together : least;
        }

        static int nextCell(Board board) {
            for (int row = ROWS - 1; row >= 0; row--) {
                for (int column = 0; column < COLUMNS; column++) {
                    int cell = row * COLUMNS + column;
                    if (board.plannedAt(cell) != NONE && board.mayBeLaid(cell)) {
                        return cell;
                    }
                }
            }
            return NONE;
        }

        static int firstDryHour(Board board) {
            int wet = board.wetness();
            for (int n = 1; n <= MOST_HOURS; n++) {
                wet = Math.max(0, wet - board.driedByAnHour());
                if (wet == 0) {
                    return n;
                }
            }
            return NONE;
        }

        /** One spray ahead of an hour is always enough: it wets more than an hour dries. */
        static int spraysNeeded(Board board, int n) {
            int wet = board.wetness();
            int needed = 0;
            for (int i = 0; i < n; i++) {
                if (wet <= board.driedByAnHour()) {
                    wet = Board.wetBySpray(wet);
                    needed++;
                }
                wet -= board.driedByAnHour();
            }
            return needed;
        }

        static int stuffsAsFresh(Board board, int sun, int shade, int sprays, int fresh) {
            int bits = 0;
            for (int stuff = 0; stuff < board.stuffCount(); stuff++) {
                if (Kind.freshness(board.kindOf(stuff), board.aOf(stuff), sun, shade, sprays) == fresh) {
                    bits |= 1 << stuff;
                }
            }
            return bits;
        }

        static int hourAsTold(Board board, Shelf row) {
            for (int n = 0; n <= MOST_HOURS; n++) {
                if (isAsTold(board, row, n)) {
                    return n;
                }
            }
            return NONE;
        }

        private static boolean isAsTold(Board board, Shelf row, int n) {
            int i = 0;
            for (int c = 0; c < CELLS; c++) {
                if (board.laidAt(c) == NONE) {
                    continue;
                }
                if (freshBehind(board, c, board.sunnySide(), n) != row.toldAt(i)) {
                    return false;
                }
                i++;
            }
            return true;
        }

        static int coloursLacking(Board board) {
            int drawn = 0;
            for (int c = 0; c < CELLS; c++) {
                if (board.drawnAt(c) != NONE) {
                    drawn |= 1 << board.drawnAt(c);
                }
            }
            int had = 0;
            for (int stuff = 0; stuff < board.stuffCount(); stuff++) {
                had |= 1 << board.colourOf(stuff);
            }
            return drawn & ~had;
        }

        static int cellsWrong(Board board) {
            int bits = 0;
            for (int c = 0; c < CELLS; c++) {
                if (board.laidAt(c) != NONE && !hasItsColour(board, c)) {
                    bits |= 1 << c;
                }
            }
            return bits;
        }

        /** Lays on the draft what the first n elements tell, up to the first that may not be. */
        static int firstBadLaying(Board draft, Shelf row, int n) {
            for (int i = 0; i < n; i++) {
                int told = row.toldAt(i);
                if (told < 0) {
                    return i;
                }
                int cell = told / LAYING_BASE;
                int stuff = told % LAYING_BASE;
                if (!draft.mayBeLaid(cell) || !draft.isStuff(stuff)) {
                    return i;
                }
                draft.layOn(cell, stuff);
            }
            return NONE;
        }
    }

    /** The women at work on what is planned: who takes which column's next cell at which minute. */
    private static final class Work {
        static final int MOST_WOMEN = 6;
        static final int MOST_MINUTE = 999;
        private static final int LONGEST = 10;
        private static final int IDLE = -1;

        /** Of each column: the row from which on (upward) nothing is begun yet. */
        private final int[] rowReached = new int[COLUMNS];
        private final int[] minutesLeft = new int[COLUMNS];
        /** Of each column: the minute at which the cell in work is finished, or IDLE. */
        private final int[] endsAt = new int[COLUMNS];

        int lastMinute(Board board, int women) {
            begin(board);
            int free = women;
            for (int minute = 0; minute <= CELLS * LONGEST; minute++) {
                free += finish(minute);
                free -= takeCells(board, minute, free);
                if (free >= women) {
                    return minute;
                }
            }
            return CELLS * LONGEST;
        }

        private static int minutesFor(Board board, int cell) {
            return board.isPlannedBare(cell) ? LONGEST - board.aOf(board.plannedAt(cell)) : 0;
        }

        private void begin(Board board) {
            for (int column = 0; column < COLUMNS; column++) {
                rowReached[column] = ROWS - 1;
                endsAt[column] = IDLE;
                minutesLeft[column] = 0;
                for (int row = 0; row < ROWS; row++) {
                    minutesLeft[column] += minutesFor(board, row * COLUMNS + column);
                }
            }
        }

        /** How many women are free again at a minute. */
        private int finish(int minute) {
            int freed = 0;
            for (int column = 0; column < COLUMNS; column++) {
                if (endsAt[column] == minute) {
                    endsAt[column] = IDLE;
                    freed++;
                }
            }
            return freed;
        }

        /** How many of the free women take a cell: a column at work has none that can be begun. */
        private int takeCells(Board board, int minute, int free) {
            int taken = 0;
            while (taken < free) {
                int column = fullestIdleColumn();
                if (column == NONE) {
                    return taken;
                }
                takeNextOf(board, column, minute);
                taken++;
            }
            return taken;
        }

        private int fullestIdleColumn() {
            int fullest = NONE;
            int most = 0;
            for (int column = 0; column < COLUMNS; column++) {
                if (endsAt[column] == IDLE && minutesLeft[column] > most) {
                    most = minutesLeft[column];
                    fullest = column;
                }
            }
            return fullest;
        }

        private void takeNextOf(Board board, int column, int minute) {
            if (column < 0 || column >= COLUMNS) {
                return;
            }
            int row = rowReached[column];
            while (row > 0 && !board.isPlannedBare(row * COLUMNS + column)) {
                row--;
            }
            int minutes = minutesFor(board, row * COLUMNS + column);
            rowReached[column] = row - 1;
            minutesLeft[column] -= minutes;
            endsAt[column] = minute + minutes;
        }
    }

    /** Reads a village from a row of letters and tells it to a draft of the board, item by item. */
    private static final class Village {
        private static final int WORDS = 7;
        private static final int STUFF_WORD = 0;
        private static final int CELL_WORD = 1;
        private static final int PLAN_WORD = 2;
        private static final int LAY_WORD = 3;
        private static final int SIDE_WORD = 4;
        private static final int SPRAY_WORD = 5;
        private static final int HOURS_WORD = 6;
        private static final int MOST_HOURS_TOLD = 99;

        private final int[] letters = new int[Shelf.MOST];
        private int size;
        private int at;
        private int fault = NONE;

        /** The fault of the text read last, or NONE. */
        int faultFound() {
            return fault;
        }

        /** How many items the row tells; if there is a fault, the draft is of no use. */
        int tell(Shelf row, Board draft) {
            takeLetters(row);
            int items = 0;
            while (items <= Shelf.MOST) {
                readItem(draft);
                if (fault != NONE) {
                    return items;
                }
                items++;
                if (at >= size) {
                    return items;
                }
                readSign(';');
                if (fault != NONE) {
                    return items;
                }
            }
            return items;
        }

        private void takeLetters(Shelf row) {
            at = 0;
            fault = NONE;
            size = Math.min(row.rowSize(), letters.length);
            for (int i = 0; i < size; i++) {
                letters[i] = row.toldAt(i);
            }
        }

        private void fail(int place) {
            if (fault == NONE) {
                fault = place;
            }
        }

        private static String wordOf(int word) {
            switch (word) {
                case STUFF_WORD: return "stuff";
                case CELL_WORD: return "cell";
                case PLAN_WORD: return "plan";
                case LAY_WORD: return "lay";
                case SIDE_WORD: return "side";
                case SPRAY_WORD: return "spray";
                default: return "hours";
            }
        }

        private void readItem(Board draft) {
            int start = at;
            int word = readWord();
            switch (word) {
                case STUFF_WORD: readStuff(draft, start); break;
                case CELL_WORD: readCell(draft); break;
                case PLAN_WORD: readPlan(draft); break;
                case LAY_WORD: readLaying(draft); break;
                case SIDE_WORD: readSide(draft); break;
                case SPRAY_WORD: draft.sprayOnce(); break;
                case HOURS_WORD: readHours(draft); break;
                default: break;
            }
        }

        /** No word begins another one, so the one that stands whole is the one that is meant. */
        private int readWord() {
            int longest = 0;
            for (int word = 0; word < WORDS; word++) {
                String wanted = wordOf(word);
                int alike = lettersAlike(wanted);
                if (alike == wanted.length()) {
                    at += alike;
                    return word;
                }
                longest = Math.max(longest, alike);
            }
            fail(at + longest);
            return NONE;
        }

        private int lettersAlike(String wanted) {
            int alike = 0;
            while (alike < wanted.length() && letterAt(at + alike) == wanted.charAt(alike)) {
                alike++;
            }
            return alike;
        }

        /** NONE behind the end, which is no sign of any text. */
        private int letterAt(int place) {
            return place >= 0 && place < size && place < letters.length ? letters[place] : NONE;
        }

        private void readSign(char sign) {
            if (letterAt(at) == sign) {
                at++;
            } else {
                fail(at);
            }
        }

        private boolean isDigit(int place) {
            return letterAt(place) >= '0' && letterAt(place) <= '9';
        }

        /** A blank and a number from least to most; NONE with a fault, or if there was one already. */
        private int readNumber(int least, int most) {
            if (fault != NONE) {
                return NONE;
            }
            readSign(' ');
            if (fault != NONE) {
                return NONE;
            }
            int start = at;
            if (!isDigit(at)) {
                fail(at);
                return NONE;
            }
            int number = letterAt(at) - '0';
            at++;
            if (isDigit(at)) {
                number = number * 10 + letterAt(at) - '0';
                at++;
            }
            if (number < least || number > most) {
                fail(start);
                return NONE;
            }
            return number;
        }

        private void readStuff(Board draft, int start) {
            if (!draft.hasRoom()) {
                fail(start);
            }
            int kind = readNumber(0, KINDS - 1);
            int colour = readNumber(0, COLOURS - 1);
            int a = readNumber(0, MOST_A);
            if (fault == NONE) {
                draft.addStuff(kind, colour, a);
            }
        }

        private void readCell(Board draft) {
            int cell = readNumber(0, CELLS - 1);
            int colour = readNumber(0, COLOURS - 1);
            if (fault == NONE) {
                draft.draw(cell, colour);
            }
        }

        private void readPlan(Board draft) {
            int cell = readNumber(0, CELLS - 1);
            int stuff = readNumber(0, draft.stuffCount() - 1);
            if (fault == NONE) {
                draft.planFor(cell, stuff);
            }
        }

        private void readLaying(Board draft) {
            int placeOfCell = at + 1;
            int cell = readNumber(0, CELLS - 1);
            if (fault == NONE && !draft.mayBeLaid(cell)) {
                fail(placeOfCell);
            }
            int stuff = readNumber(0, draft.stuffCount() - 1);
            if (fault == NONE) {
                draft.layOn(cell, stuff);
            }
        }

        private void readSide(Board draft) {
            int atSide = readNumber(0, SIDES - 1);
            if (fault == NONE) {
                draft.turnTo(atSide);
            }
        }

        private void readHours(Board draft) {
            int n = readNumber(1, MOST_HOURS_TOLD);
            if (fault == NONE) {
                draft.passHours(n);
            }
        }
    }

    /** The acts of stuffs, by bodies that kinds have or take from the kinds above, and their trace. */
    private static final class Acts {
        static final int ACTS = 3;
        private static final int LAYS = 0;
        private static final int FADES = 1;
        private static final int SHOWS = 2;
        private static final int KEPT = 20;
        private static final int DEEPEST = 40;
        /** The number of each kind's body for lays, fades and shows; 0 where it has none of its own. */
        private static final int[] BODIES = {
            10, 20, 0, 0, 51, 0, 70,
            11, 0, 30, 40, 0, 0, 71,
            12, 0, 0, 0, 50, 60, 0,
        };

        private final int[] kept = new int[KEPT];
        private int ran;
        private int kind;
        private int m;
        private int k;

        void forget() {
            ran = 0;
        }

        int bodiesRun() {
            return ran;
        }

        int bodyAt(int i) {
            return i < 0 || i >= ran || i >= kept.length ? NONE : kept[i];
        }

        int perform(Board board, int stuff, int act, int x) {
            forget();
            kind = board.kindOf(stuff);
            m = stuff;
            k = board.aOf(stuff);
            return runBody(this, act, kind, x, 0);
        }

        private void noteBegun(int body) {
            if (ran >= 0 && ran < kept.length) {
                kept[ran] = body;
            }
            ran++;
        }

        private static int ownBody(int act, int ofKind) {
            int place = act * KINDS + ofKind;
            return ofKind < 0 || place < 0 || place >= BODIES.length ? 0 : BODIES[place];
        }

        /** The kind whose body runs: the first one from a kind upward that has one. */
        private static int kindWithBody(int act, int from) {
            int at = from;
            for (int step = 0; step < KINDS && at != NONE && ownBody(act, at) == 0; step++) {
                at = Kind.above(at);
            }
            return at;
        }

        /** Runs the body that a kind has or takes from above; the acts that it calls run from the stuff's own kind. */
        private static int runBody(Acts acts, int act, int from, int x, int depth) {
            if (acts == null || depth > DEEPEST) {
                return 0;
            }
            int owner = kindWithBody(act, from);
            int body = ownBody(act, owner);
            int above = Kind.above(owner);
            int own = acts.kind;
            int deeper = depth + 1;
            acts.noteBegun(body);
            switch (body) {
                case 10: return x + acts.m;
                case 11: return runBody(acts, LAYS, own, x, deeper) * 2;
                case 12: {
                    int faded = runBody(acts, FADES, own, x, deeper);
                    return faded ^ runBody(acts, LAYS, own, x - acts.k, deeper);
                }
                case 20: return runBody(acts, LAYS, above, x, deeper) + acts.k;
                case 30: return runBody(acts, FADES, above, x, deeper) * 3;
                case 40: return runBody(acts, FADES, above, x + 1, deeper);
                case 50: return -runBody(acts, SHOWS, above, x, deeper);
                case 51: return runBody(acts, LAYS, above, x, deeper) - acts.m;
                case 60: return runBody(acts, SHOWS, above, x, deeper) ^ 5;
                case 70: return runBody(acts, LAYS, above, x, deeper) * 2;
                case 71: return runBody(acts, FADES, above, x - acts.k, deeper);
                default: return 0;
            }
        }
    }
}
