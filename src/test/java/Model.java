import java.util.ArrayList;
import java.util.Arrays;
import java.util.List;

/**
 * The document once more, written another way (kinds as classes, a cell as an object, thoughts by letting the
 * hours pass on a copy), so that OracleTest can compare the program with it. Slow, and free of LANGUAGE.md.
 */
final class Model {
    static class Petal {
        int kind;
        int m;
        int colour;
        int k;
        Model of;

        int brown(int sun, int shade, int sprays) {
            return sun + shade;
        }

        int fresh(int sun, int shade, int sprays) {
            return Math.max(0, 9 - brown(sun, shade, sprays) / (k + 1));
        }

        int lays(int x) {
            of.ran.add(10);
            return x + m;
        }

        int fades(int x) {
            of.ran.add(11);
            return lays(x) * 2;
        }

        int shows(int x) {
            of.ran.add(12);
            return fades(x) ^ lays(x - k);
        }
    }

    static class Seed extends Petal {
        @Override int brown(int sun, int shade, int sprays) {
            return sun + shade > 12 ? sun + shade - 12 : 0;
        }

        @Override int lays(int x) {
            of.ran.add(20);
            return super.lays(x) + k;
        }
    }

    static class Moss extends Petal {
        @Override int brown(int sun, int shade, int sprays) {
            return sun + shade > 6 * sprays ? sun + shade - 6 * sprays : 0;
        }

        @Override int fades(int x) {
            of.ran.add(30);
            return super.fades(x) * 3;
        }
    }

    static class Lichen extends Seed {
        @Override int brown(int sun, int shade, int sprays) {
            return 0;
        }

        @Override int fades(int x) {
            of.ran.add(40);
            return super.fades(x + 1);
        }
    }

    static class Blue extends Petal {
        @Override int brown(int sun, int shade, int sprays) {
            return 2 * sun + shade;
        }

        @Override int shows(int x) {
            of.ran.add(50);
            return -super.shows(x);
        }

        @Override int lays(int x) {
            of.ran.add(51);
            return super.lays(x) - m;
        }
    }

    static class Fine extends Blue {
        @Override int fresh(int sun, int shade, int sprays) {
            return Math.max(0, super.fresh(sun, shade, sprays) - sprays);
        }

        @Override int shows(int x) {
            of.ran.add(60);
            return super.shows(x) ^ 5;
        }
    }

    static class Fern extends Moss {
        @Override int fresh(int sun, int shade, int sprays) {
            return sun + shade > 48 ? 0 : super.fresh(sun, shade, sprays);
        }

        @Override int lays(int x) {
            of.ran.add(70);
            return super.lays(x) * 2;
        }

        @Override int fades(int x) {
            of.ran.add(71);
            return super.fades(x - k);
        }
    }

    static final Class<?>[] KINDS =
        {Petal.class, Seed.class, Moss.class, Lichen.class, Blue.class, Fine.class, Fern.class};

    static final class Cell {
        int colour = -1;
        Petal laid;
        int planned = -1;
        int sun;
        int shade;
        int sprays;

        Cell copy() {
            Cell c = new Cell();
            c.colour = colour;
            c.laid = laid;
            c.planned = planned;
            c.sun = sun;
            c.shade = shade;
            c.sprays = sprays;
            return c;
        }

        int fresh() {
            return laid == null ? 0 : laid.fresh(sun, shade, sprays);
        }

        int beauty() {
            return laid != null && laid.colour == colour ? fresh() : 0;
        }
    }

    static final class World {
        List<Petal> stuffs = new ArrayList<>();
        Cell[] cells = new Cell[24];
        int side;
        int wet = 60;
        int hour;
        int cracks;
        int seed = 1;

        World() {
            for (int c = 0; c < 24; c++) {
                cells[c] = new Cell();
            }
        }

        World copy() {
            World w = new World();
            w.stuffs = new ArrayList<>(stuffs);
            for (int c = 0; c < 24; c++) {
                w.cells[c] = cells[c].copy();
            }
            w.side = side;
            w.wet = wet;
            w.hour = hour;
            w.cracks = cracks;
            w.seed = seed;
            return w;
        }

        boolean inSun(int cell) {
            return side == 1 && (cell & 3) <= 1 || side == 2 && (cell & 3) >= 2;
        }

        void hour() {
            for (int c = 0; c < 24; c++) {
                if (cells[c].laid != null && inSun(c)) {
                    cells[c].sun++;
                } else if (cells[c].laid != null) {
                    cells[c].shade++;
                }
            }
            wet -= side != 0 ? 2 : 1;
            if (wet <= 0) {
                wet = 0;
                cracks++;
            }
            hour++;
        }

        World behind(int n) {
            World w = copy();
            for (int i = 0; i < n; i++) {
                w.hour();
            }
            return w;
        }

        void spray() {
            wet += 10;
            if (wet > 99) {
                wet = 99;
            }
            for (Cell c : cells) {
                if (c.laid != null) {
                    c.sprays++;
                }
            }
        }

        boolean may(int cell) {
            if (cells[cell].laid != null) {
                return false;
            }
            return cell >= 20 || cells[cell + 4].laid != null || cells[cell + 4].colour == -1;
        }

        void put(int cell, Petal stuff) {
            cells[cell].laid = stuff;
            cells[cell].sun = 0;
            cells[cell].shade = 0;
            cells[cell].sprays = 0;
        }

        int laid() {
            int n = 0;
            for (Cell c : cells) {
                n += c.laid != null ? 1 : 0;
            }
            return n;
        }

        int looks() {
            int n = 0;
            for (Cell c : cells) {
                n += c.beauty();
            }
            return n;
        }

        /** The looks behind each hour 0 to 240. */
        int[] looksOfHours() {
            int[] looks = new int[241];
            World w = copy();
            for (int n = 0; n <= 240; n++) {
                looks[n] = w.looks();
                w.hour();
            }
            return looks;
        }

        int draw(int n) {
            seed = seed * 1103515245 + 12345;
            return (int) ((seed & 0xFFFFFFFFL) / 65536 % n);
        }
    }

    final List<Integer> ran = new ArrayList<>();
    World world = new World();
    World image;
    /** Of each shelf: null, an Integer (a stuff), or a long[]; and the sort of the row. */
    final Object[] shelves = new Object[8];
    final int[] sorts = new int[8];
    final int[] refusals = new int[8];
    int latestFault = -1;

    private int no(int answer) {
        refusals[answer <= -11 ? -10 - answer : -answer]++;
        return answer;
    }

    private static boolean in(int v, int least, int most) {
        return least <= v && v <= most;
    }

    private boolean isStuff(int stuff) {
        return in(stuff, 0, world.stuffs.size() - 1);
    }

    public int row(int s, int sort, int n) {
        if (!in(s, 0, 7)) return no(-1);
        if (n < 0) return no(-4);
        if (!in(sort, 0, 3)) return no(-6);
        if (n > 160) return no(-7);
        shelves[s] = new long[n];
        sorts[s] = sort;
        return 1;
    }

    public int set(int s, int i, long v) {
        if (!in(s, 0, 7)) return no(-1);
        if (shelves[s] instanceof Integer) return no(-2);
        if (shelves[s] == null) return no(-3);
        long[] row = (long[]) shelves[s];
        if (!in(i, 0, row.length - 1)) return no(-5);
        int away = 64 - (8 << sorts[s]);
        row[i] = v << away >> away;
        return 1;
    }

    public int copy(int p, int q, int i, int j, int n) {
        if (!in(p, 0, 7) || !in(q, 0, 7)) return no(-1);
        if (shelves[p] instanceof Integer || shelves[q] instanceof Integer) return no(-2);
        if (shelves[p] != null && shelves[q] != null && sorts[p] != sorts[q]) return no(-2);
        if (shelves[p] == null || shelves[q] == null) return no(-3);
        if (n < 0) return no(-4);
        long[] from = ((long[]) shelves[p]).clone();
        long[] to = (long[]) shelves[q];
        if (i < 0 || j < 0 || (long) i + n > from.length || (long) j + n > to.length) return no(-5);
        for (int e = 0; e < n; e++) {
            to[j + e] = from[i + e];
        }
        return 1;
    }

    public long element(int s, int i) {
        if (!in(s, 0, 7) || !(shelves[s] instanceof long[])) return 0;
        long[] row = (long[]) shelves[s];
        return in(i, 0, row.length - 1) ? row[i] : 0;
    }

    public int show(int s, int stuff) {
        if (!in(s, 0, 7) || stuff != -1 && !isStuff(stuff)) return no(-1);
        shelves[s] = stuff == -1 ? null : Integer.valueOf(stuff);
        return stuff == -1 ? 0 : 1;
    }

    public int holds(int s) {
        if (!in(s, 0, 7) || shelves[s] == null) return -1;
        return shelves[s] instanceof Integer ? (Integer) shelves[s] : 100 + sorts[s];
    }

    public int says(int s, int kind) {
        if (!in(s, 0, 7) || !in(kind, 0, 6)) return no(-1);
        if (shelves[s] instanceof long[]) return no(-2);
        if (shelves[s] == null) return no(-3);
        Petal stuff = world.stuffs.get((Integer) shelves[s]);
        if (!KINDS[kind].isInstance(stuff)) return no(-2);
        int n = 0;
        for (Cell c : world.cells) {
            if (kind == 1 && c.laid == stuff || kind == 2 && c.planned == stuff.m) n++;
        }
        if (kind == 1 || kind == 2) return n;
        if (kind == 0) return stuff.colour;
        return kind == 6 ? stuff.k : stuff.fresh(24, 0, 2);
    }

    private void add(World w, int kind, int colour, int a) {
        try {
            Petal stuff = (Petal) KINDS[kind].getDeclaredConstructor().newInstance();
            stuff.kind = kind;
            stuff.colour = colour;
            stuff.k = a;
            stuff.m = w.stuffs.size();
            stuff.of = this;
            w.stuffs.add(stuff);
        } catch (ReflectiveOperationException e) {
            throw new IllegalStateException(e);
        }
    }

    public int stuff(int kind, int colour, int a) {
        if (!in(kind, 0, 6)) return no(-1);
        if (!in(colour, 0, 7) || !in(a, 0, 9)) return no(-6);
        if (world.stuffs.size() == 8) return no(-7);
        add(world, kind, colour, a);
        return world.stuffs.size() - 1;
    }

    public int stuffOf(int stuff, int what) {
        if (!isStuff(stuff) || !in(what, 0, 2)) return no(-5);
        Petal p = world.stuffs.get(stuff);
        return new int[] {p.kind, p.colour, p.k}[what];
    }

    public int cell(int cell, int colour) {
        if (!in(cell, 0, 23)) return no(-1);
        if (!in(colour, -1, 7)) return no(-6);
        world.cells[cell].colour = colour;
        return colour == -1 ? 0 : 1;
    }

    public int cellOf(int cell, int what) {
        if (!in(cell, 0, 23) || !in(what, 0, 5)) return no(-15);
        Cell c = world.cells[cell];
        return new int[] {c.colour, c.laid == null ? -1 : c.laid.m, c.planned, c.sun, c.shade, c.sprays}[what];
    }

    public int plan(int cell, int stuff) {
        if (!in(cell, 0, 23) || stuff != -1 && !isStuff(stuff)) return no(-1);
        world.cells[cell].planned = stuff;
        return stuff == -1 ? 0 : 1;
    }

    public int village(int s) {
        if (!in(s, 0, 7)) return no(-1);
        if (shelves[s] instanceof Integer) return no(-2);
        if (shelves[s] == null) return no(-3);
        StringBuilder text = new StringBuilder();
        for (long v : (long[]) shelves[s]) {
            text.append((int) v >= 0 && (int) v < 128 ? (char) (int) v : '?');
        }
        World w = world.copy();
        int[] place = {0};
        int items = 0;
        boolean more = true;
        while (more) {
            latestFault = item(w, text.toString(), place);
            if (latestFault != -1) return no(-6);
            items++;
            more = place[0] < text.length();
            if (more && text.charAt(place[0]) != ';') {
                latestFault = place[0];
                return no(-6);
            }
            place[0]++;
        }
        world = w;
        return items;
    }

    private static final String[] WORDS = {"cell", "hours", "lay", "plan", "side", "spray", "stuff"};

    /** Reads one item from place[0] on: its fault, or -1. */
    private int item(World w, String text, int[] place) {
        int from = place[0];
        String rest = text.substring(from);
        String word = null;
        for (String one : WORDS) {
            if (rest.startsWith(one)) word = one;
        }
        if (word == null) {
            for (int n = 4; ; n--) {
                for (String one : WORDS) {
                    if (n <= one.length() && rest.startsWith(one.substring(0, n))) return from + n;
                }
            }
        }
        if (word.equals("stuff") && w.stuffs.size() == 8) return from;
        int[] least = {0, 0, 0};
        int[] most;
        int own = w.stuffs.size() - 1;
        switch (word) {
            case "stuff": most = new int[] {6, 7, 9}; break;
            case "cell": most = new int[] {23, 7}; break;
            case "plan": case "lay": most = new int[] {23, own}; break;
            case "side": most = new int[] {2}; break;
            case "hours": most = new int[] {99}; least[0] = 1; break;
            default: most = new int[] {}; break;
        }
        int at = from + word.length();
        int[] n = new int[most.length];
        for (int i = 0; i < most.length; i++) {
            if (at >= text.length() || text.charAt(at) != ' ') return at;
            at++;
            int end = at;
            while (end < text.length() && end < at + 2 && Character.isDigit(text.charAt(end))) end++;
            if (end == at) return at;
            n[i] = Integer.parseInt(text.substring(at, end));
            if (!in(n[i], least[i], most[i])) return at;
            if (word.equals("lay") && i == 0 && !w.may(n[0])) return at;
            at = end;
        }
        switch (word) {
            case "stuff": add(w, n[0], n[1], n[2]); break;
            case "cell": w.cells[n[0]].colour = n[1]; break;
            case "plan": w.cells[n[0]].planned = n[1]; break;
            case "lay": w.put(n[0], w.stuffs.get(n[1])); break;
            case "side": w.side = n[0]; break;
            case "hours": for (int i = 0; i < n[0]; i++) w.hour(); break;
            default: w.spray(); break;
        }
        place[0] = at;
        return -1;
    }

    public int fault() {
        return latestFault;
    }

    public int may(int cell) {
        if (!in(cell, 0, 23)) return no(-1);
        return world.may(cell) ? 1 : 0;
    }

    public int lay(int cell, int stuff) {
        if (!in(cell, 0, 23) || !isStuff(stuff)) return no(-1);
        if (!world.may(cell)) return no(-6);
        world.put(cell, world.stuffs.get(stuff));
        return world.laid();
    }

    public int strip(int cell) {
        if (!in(cell, 0, 23)) return no(-1);
        Petal was = world.cells[cell].laid;
        if (was == null) return no(-6);
        world.put(cell, null);
        return was.m;
    }

    public int spray() {
        world.spray();
        return world.wet;
    }

    public int side(int v) {
        if (!in(v, 0, 2)) return no(-6);
        int was = world.side;
        world.side = v;
        return was;
    }

    public int hours(int n) {
        if (!in(n, 1, 240)) return no(-6);
        world = world.behind(n);
        return world.hour;
    }

    public int fresh(int cell, int n) {
        if (!in(cell, 0, 23)) return no(-1);
        if (!in(n, 0, 240)) return no(-6);
        return world.behind(n).cells[cell].fresh();
    }

    public int beauty(int cell, int n) {
        if (!in(cell, 0, 23)) return no(-1);
        if (!in(n, 0, 240)) return no(-6);
        return world.behind(n).cells[cell].beauty();
    }

    public int looks(int n) {
        if (!in(n, 0, 240)) return no(-6);
        return world.behind(n).looks();
    }

    private static boolean badHours(int f, int t) {
        return !in(f, 0, 240) || !in(t, 0, 240) || t < f;
    }

    public int worst(int f, int t) {
        if (badHours(f, t)) return no(-6);
        int[] looks = world.looksOfHours();
        int least = Arrays.stream(looks, f, t + 1).min().getAsInt();
        int n = f;
        while (looks[n] != least) n++;
        return n;
    }

    public int all(int f, int t) {
        if (badHours(f, t)) return no(-6);
        return Arrays.stream(world.looksOfHours(), f, t + 1).sum();
    }

    public int best(int cell, int f, int t, int how) {
        if (!in(cell, 0, 23)) return no(-11);
        if (!in(how, 0, 1)) return no(-15);
        if (badHours(f, t)) return no(-16);
        int best = -1;
        int most = -1;
        for (Petal stuff : world.stuffs) {
            if (stuff.colour != world.cells[cell].colour) continue;
            World w = world.copy();
            w.put(cell, stuff);
            int[] beauty = new int[241];
            for (int n = 0; n <= 240; n++) {
                beauty[n] = w.cells[cell].beauty();
                w.hour();
            }
            int worth = how == 0 ? Arrays.stream(beauty, f, t + 1).sum()
                : Arrays.stream(beauty, f, t + 1).min().getAsInt();
            if (worth > most) {
                most = worth;
                best = stuff.m;
            }
        }
        return best;
    }

    public int turn(int f, int t) {
        if (badHours(f, t)) return no(-6);
        int best = 0;
        int most = -1;
        for (int v = 0; v < 3; v++) {
            World w = world.copy();
            w.side = v;
            int sum = Arrays.stream(w.looksOfHours(), f, t + 1).sum();
            if (sum > most) {
                most = sum;
                best = v;
            }
        }
        return best;
    }

    public int next() {
        for (int c : new int[] {20, 21, 22, 23, 16, 17, 18, 19, 12, 13, 14, 15, 8, 9, 10, 11, 4, 5, 6, 7, 0, 1, 2, 3}) {
            if (world.cells[c].planned != -1 && world.may(c)) return c;
        }
        return -1;
    }

    /** Goes from one end of work to the next; a column is the list of its minutes still to be begun, from below. */
    private int minutes(int women) {
        List<List<Integer>> columns = new ArrayList<>();
        for (int c = 0; c < 4; c++) {
            List<Integer> column = new ArrayList<>();
            for (int cell = 20 + c; cell >= 0; cell -= 4) {
                Cell one = world.cells[cell];
                if (one.laid == null && one.planned != -1) column.add(10 - world.stuffs.get(one.planned).k);
            }
            columns.add(column);
        }
        int[] ends = {-1, -1, -1, -1};
        int now = 0;
        int free = women;
        while (true) {
            while (free > 0) {
                int best = -1;
                int most = 0;
                for (int c = 0; c < 4; c++) {
                    int left = columns.get(c).stream().mapToInt(Integer::intValue).sum();
                    if (ends[c] == -1 && left > most) {
                        most = left;
                        best = c;
                    }
                }
                if (best == -1) break;
                ends[best] = now + columns.get(best).remove(0);
                free--;
            }
            int soonest = Arrays.stream(ends).filter(e -> e != -1).min().orElse(-1);
            if (soonest == -1) return now;
            now = soonest;
            for (int c = 0; c < 4; c++) {
                if (ends[c] == now) {
                    ends[c] = -1;
                    free++;
                }
            }
        }
    }

    public int done(int w) {
        return in(w, 1, 6) ? minutes(w) : no(-6);
    }

    public int women(int minute) {
        if (!in(minute, 0, 999)) return no(-16);
        int w = 1;
        while (w <= 6 && minutes(w) > minute) w++;
        return w <= 6 ? w : -1;
    }

    public int dry() {
        for (int n = 1; n <= 240; n++) {
            if (world.behind(n).wet == 0) return n;
        }
        return -1;
    }

    public int sprayings(int n) {
        if (!in(n, 0, 240)) return no(-6);
        World w = world.copy();
        int count = 0;
        for (int i = 0; i < n; i++) {
            while (w.behind(1).wet == 0) {
                w.spray();
                count++;
            }
            w.hour();
        }
        return count;
    }

    public int was(int sun, int shade, int sprays, int fresh) {
        if (!in(sun, 0, 240) || !in(shade, 0, 240) || !in(sprays, 0, 20) || !in(fresh, 0, 9)) return no(-6);
        int bits = 0;
        for (Petal p : world.stuffs) {
            bits += p.fresh(sun, shade, sprays) == fresh ? 1 << p.m : 0;
        }
        return bits;
    }

    private int[] told(int s) {
        long[] row = (long[]) shelves[s];
        int[] told = new int[row.length];
        for (int i = 0; i < told.length; i++) {
            told[i] = (int) row[i];
        }
        return told;
    }

    public int age(int s, int n) {
        if (!in(s, 0, 7)) return no(-11);
        if (shelves[s] instanceof Integer) return no(-12);
        if (shelves[s] == null) return no(-13);
        if (n < 0) return no(-14);
        if (n > ((long[]) shelves[s]).length) return no(-15);
        if (n != world.laid()) return no(-16);
        int[] told = Arrays.copyOf(told(s), n);
        World w = world.copy();
        for (int hour = 0; hour <= 240; hour++) {
            int[] is = Arrays.stream(w.cells).filter(c -> c.laid != null).mapToInt(Cell::fresh).toArray();
            if (Arrays.equals(told, is)) return hour;
            w.hour();
        }
        return -1;
    }

    public int lacking() {
        int bits = 0;
        for (Cell c : world.cells) {
            if (c.colour != -1 && world.stuffs.stream().noneMatch(p -> p.colour == c.colour)) bits |= 1 << c.colour;
        }
        return bits;
    }

    public int wrong() {
        int bits = 0;
        for (int c = 0; c < 24; c++) {
            Cell one = world.cells[c];
            if (one.laid != null && one.laid.colour != one.colour) bits += 1 << c;
        }
        return bits;
    }

    public int judge(int s, int n) {
        if (!in(s, 0, 7)) return no(-11);
        if (shelves[s] instanceof Integer) return no(-12);
        if (shelves[s] == null) return no(-13);
        if (n < 0) return no(-14);
        if (n > ((long[]) shelves[s]).length) return no(-15);
        if (n > 40) return no(-16);
        int[] told = told(s);
        World w = world.copy();
        for (int i = 0; i < n; i++) {
            int cell = Math.floorDiv(told[i], 10);
            int stuff = Math.floorMod(told[i], 10);
            if (!in(cell, 0, 23) || !isStuff(stuff) || !w.may(cell)) return i;
            w.put(cell, w.stuffs.get(stuff));
        }
        return -1;
    }

    public int days(int n) {
        if (!in(n, 1, 20)) return no(-6);
        int had = world.cracks;
        for (int day = 0; day < n; day++) {
            world.side = world.draw(3);
            world = world.behind(24);
            if (world.wet < 30) world.spray();
            world.put(world.draw(24), null);
        }
        return world.cracks - had;
    }

    public int seed(int v) {
        int was = world.seed;
        world.seed = v;
        return was;
    }

    public int act(int stuff, int act, int x) {
        ran.clear();
        if (!isStuff(stuff) || !in(act, 0, 2)) return 0;
        Petal p = world.stuffs.get(stuff);
        return act == 0 ? p.lays(x) : act == 1 ? p.fades(x) : p.shows(x);
    }

    public int trace(int i) {
        return in(i, 0, Math.min(20, ran.size()) - 1) ? ran.get(i) : -1;
    }

    public int image() {
        image = world.copy();
        return world.stuffs.size();
    }

    public int restore() {
        if (image == null) return no(-6);
        world = image.copy();
        for (int s = 0; s < 8; s++) {
            if (shelves[s] instanceof Integer && !isStuff((Integer) shelves[s])) shelves[s] = null;
        }
        return world.stuffs.size();
    }

    public int status(int what) {
        if (in(what, 11, 17)) return refusals[what - 10];
        if (!in(what, 0, 7)) return -1;
        return new int[] {world.stuffs.size(), world.laid(), world.wet, world.side, world.hour, world.cracks,
            world.seed, ran.size()}[what];
    }
}
