/** The edges of SHEETS, of what is read from them, and of counts: promises 30 to 34. */
public final class SheetEdgesTest {
    private static final Edges E = new Edges();
    private static final int BAD = Edges.BAD, FULL = Edges.FULL, NONE = Edges.NONE, MIN = Edges.MIN, MAX = Edges.MAX;
    private static final int NULL = 1, INDEX = 2, CAST = 3;

    public static void main(String[] args) {
        sheetBounds();
        newRows();
        layFaults();
        lowestBits();
        readBounds();
        readNull();
        readCast();
        readIndex();
        wholeOnesCome();
        homesThatAreBad();
        noneCame();
        readFull();
        firstMet();
        readsAreActs();
        holesOfHomes();
        torn();
        counts();
        E.finish();
    }

    private static void lay(MissingHoles x, int k, int from, int... cells) {
        for (int i = 0; i < cells.length; i++) {
            x.lay(k, from + i, cells[i]);
        }
    }

    private static void sheetBounds() {
        E.sentence("promise 30", "A SHEET is a new row of CELLS 0: 1. BAD: also n above 48; -10 - 4.");
        MissingHoles x = new MissingHoles();
        for (int k = 0; k < 4; k++) {
            for (int lane = 0; lane < 3; lane++) {
                int sheet = k;
                int as = lane;
                E.due("sheet(" + k + ", " + lane + ", 0)", x.sheet(k, lane, 0), 1);
                E.due("lay of no CELL", x.lay(k, 0, 0), -10 - INDEX);
                E.due("sheet(" + k + ", " + lane + ", 48)", x.sheet(k, lane, 48), 1);
                E.due("lay of the last CELL", x.lay(k, 47, 0), 1);
                E.due("lay behind it", x.lay(k, 48, 0), -10 - INDEX);
                for (int n : new int[] {49, 50, 200, MAX}) {
                    E.refused(x, "sheet(" + k + ", " + lane + ", " + n + ")", () -> x.sheet(sheet, as, n), BAD);
                }
                for (int n : new int[] {-1, -2, -48, MIN}) {
                    E.refused(x, "sheet(" + k + ", " + lane + ", " + n + ")", () -> x.sheet(sheet, as, n), -14);
                }
                E.due("the row stays", x.lay(k, 47, 0), 1);
                E.due("its lane stays", x.read(k, lane, 44, 1), 1);
                E.due("torn()", x.torn(), 0);
                x.undo();
            }
        }
        E.sentence("promise 30", "BAD (ahead of -10 - 4)");
        for (int bad : new int[] {-1, 4, 5, MIN, MAX}) {
            for (int n : new int[] {0, 5, 48, 49, -1, MIN}) {
                E.refused(x, "sheet(" + bad + ", 0, " + n + ")", () -> x.sheet(bad, 0, n), BAD);
                int lane = bad == 4 ? 3 : bad;
                E.refused(x, "sheet(0, " + lane + ", " + n + ")", () -> x.sheet(0, lane, n), BAD);
            }
        }
        MissingHoles y = new MissingHoles();
        y.sheet(0, 0, -1);
        y.sheet(0, 0, 49);
        y.sheet(0, 3, 4);
        E.due("what was refused leaves nothing", y.lay(0, 0, 0), -10 - NULL);
        E.due("count(7)", y.count(7), NONE);
    }

    private static void newRows() {
        E.sentence("promise 30", "A SHEET is a new row of CELLS 0");
        MissingHoles x = new MissingHoles();
        for (int lane = 0; lane < 3; lane++) {
            x.sheet(1, lane, 48);
            for (int i = 0; i < 48; i++) {
                x.lay(1, i, -1);
            }
            E.due("read of what was laid", x.read(1, lane, 0, 1), -20);
            x.sheet(1, lane, 48);
            E.due("read of a new row", x.read(1, lane, 0, 12), 12);
            E.due("torn()", x.torn(), 0);
            lay(x, 1, 0, 9, 9, 9, 9, 9, 9, 9, 9);
            x.sheet(1, lane, 4);
            E.due("read of a shorter row", x.read(1, lane, 0, 2), 1);
            E.due("torn()", x.torn(), INDEX);
            x.sheet(1, lane, 8);
            E.due("read of a longer row", x.read(1, lane, 0, 2), 2);
        }
        E.due("known(1)", x.known(1), 45);
        E.due("no holes", x.known(5) + x.known(6) + x.known(7) + x.known(8), 0);
    }

    private static void layFaults() {
        E.sentence("promise 31", "CELL i of a SHEET becomes v: 1. BAD: k; -10 less the FAULT: NULL, INDEX.");
        MissingHoles x = new MissingHoles();
        for (int k : new int[] {-1, 4, 5, MIN, MAX}) {
            for (int i : new int[] {0, -1, 48, MIN, MAX}) {
                E.refused(x, "lay(" + k + ", " + i + ", 0)", () -> x.lay(k, i, 0), BAD);
            }
        }
        for (int i : new int[] {-1, 0, 1, 47, 48, MIN, MAX}) {
            E.refused(x, "lay(2, " + i + ", 1) of nothing", () -> x.lay(2, i, 1), -10 - NULL);
        }
        for (int n : new int[] {0, 1, 47, 48}) {
            x.sheet(2, 1, n);
            for (int i : new int[] {n, n + 1, 48, 49, -1, MIN, MAX, MIN + 1, -48}) {
                E.refused(x, "lay(2, " + i + ", 1) of " + n, () -> x.lay(2, i, 1), -10 - INDEX);
            }
            if (n > 0) {
                E.due("lay(2, 0, 1)", x.lay(2, 0, 1), 1);
                E.due("lay(2, " + (n - 1) + ", 1)", x.lay(2, n - 1, 1), 1);
            }
        }
        E.due("the other SHEETS have nothing still", x.lay(0, 0, 0) + x.lay(1, 0, 0) + x.lay(3, 0, 0), -33);
    }

    private static void lowestBits() {
        E.sentence("promise 31", "becomes v (its lowest bits)");
        int[] values = {0, 1, 3, 127, 128, 255, 256, 259, -253, -1, -128, 32767, 32768, 65535, 65536, 65539, -65533, -32768,
            1 << 24, MAX, MIN, MIN + 3, -256, -65536, 0x7fff0002, 0x12340003};
        for (int lane = 0; lane < 3; lane++) {
            for (int v : values) {
                int cell = lane == 0 ? (byte) v : lane == 1 ? (short) v : v;
                MissingHoles x = new MissingHoles();
                x.sheet(3, lane, 4);
                E.due("lay of " + v, x.lay(3, 2, v), 1);
                boolean good = cell >= 0 && cell <= 3;
                E.due("read of " + v + " in lane " + lane, x.read(3, lane, 0, 1), good ? 1 : -20);
                E.due("known(7)", x.known(7), good ? cell : 0);
            }
        }
        MissingHoles x = new MissingHoles();
        x.sheet(0, 0, 4);
        x.lay(0, 0, -1);
        x.lay(0, 0, 2);
        x.read(0, 0, 0, 1);
        E.due("the latest stays", x.known(5), 2);
    }

    private static void readBounds() {
        E.sentence("promise 32", "n (0 to 12) HOMES .. BAD: k, lane, n");
        MissingHoles x = new MissingHoles();
        x.sheet(0, 0, 48);
        E.due("read of 0", x.read(0, 0, 0, 0), 0);
        E.due("read of 12", x.read(0, 0, 0, 12), 12);
        for (int bad : new int[] {-1, 4, 5, MIN, MAX}) {
            E.refused(x, "read(" + bad + ", 0, 0, 1)", () -> x.read(bad, 0, 0, 1), BAD);
            E.refused(x, "read(" + bad + ", 0, 0, 0)", () -> x.read(bad, 0, 0, 0), BAD);
            int lane = bad == 4 ? 3 : bad;
            E.refused(x, "read(0, " + lane + ", 0, 1)", () -> x.read(0, lane, 0, 1), BAD);
            E.refused(x, "read(1, " + lane + ", 0, 1) of nothing", () -> x.read(1, lane, 0, 1), BAD);
        }
        for (int n : new int[] {-1, 13, 14, MIN, MAX}) {
            E.refused(x, "read(0, 0, 0, " + n + ")", () -> x.read(0, 0, 0, n), BAD);
            E.refused(x, "read(1, 0, 0, " + n + ") of nothing", () -> x.read(1, 0, 0, n), BAD);
            E.refused(x, "read(0, 1, 0, " + n + ") of another lane", () -> x.read(0, 1, 0, n), BAD);
        }
    }

    private static void readNull() {
        E.sentence("Terms", "1 NULL (nothing)");
        for (int k = 0; k < 4; k++) {
            for (int lane = 0; lane < 3; lane++) {
                MissingHoles x = new MissingHoles();
                for (int f : new int[] {0, -1, 48, MIN, MAX}) {
                    E.due("read(" + k + ", " + lane + ", " + f + ", 1) of nothing", x.read(k, lane, f, 1), 0);
                    E.due("torn()", x.torn(), NULL);
                }
                E.due("count(0)", x.count(0), 0);
                E.due("count(4)", x.count(4), 5);
            }
        }
    }

    private static void readCast() {
        E.sentence("Terms", "3 CAST (another lane)");
        for (int lane = 0; lane < 3; lane++) {
            for (int as = 0; as < 3; as++) {
                MissingHoles x = new MissingHoles();
                x.sheet(2, lane, 8);
                E.due("read of lane " + lane + " as of " + as, x.read(2, as, 0, 2), lane == as ? 2 : 0);
                E.due("torn()", x.torn(), lane == as ? 0 : CAST);
                for (int f : new int[] {-1, 8, MIN, MAX}) {
                    E.due("read from " + f, x.read(2, as, f, 2), 0);
                    E.due("torn(), CAST ahead of INDEX", x.torn(), lane == as ? INDEX : CAST);
                }
                x.sheet(2, lane, 0);
                E.due("read of no CELLS", x.read(2, as, 0, 1), 0);
                E.due("torn()", x.torn(), lane == as ? INDEX : CAST);
            }
        }
    }

    private static void readIndex() {
        E.sentence("Terms", "2 INDEX");
        for (int n = 0; n <= 48; n++) {
            MissingHoles x = new MissingHoles();
            x.sheet(0, n % 3, n);
            for (int f : new int[] {0, 1, 2, 3, 5}) {
                int whole = Math.min(12, Math.max(0, (n - f) / 4));
                int came = x.read(0, n % 3, f, 12);
                E.due("read of " + n + " CELLS from " + f, came, whole);
                E.due("torn()", x.torn(), whole == 12 ? 0 : INDEX);
                x.undo();
            }
        }
        MissingHoles x = new MissingHoles();
        x.sheet(0, 0, 48);
        for (int f : new int[] {-1, -2, -3, -4, -5, -48, MIN, MIN + 3, MIN + 4, MAX, MAX - 1, MAX - 2, MAX - 3, MAX - 4, 45, 46, 47, 48, 49}) {
            E.due("read(0, 0, " + f + ", 12)", x.read(0, 0, f, 12), 0);
            E.due("torn()", x.torn(), INDEX);
        }
        E.due("read(0, 0, 44, 1)", x.read(0, 0, 44, 1), 1);
        E.due("torn()", x.torn(), 0);
        E.due("read(0, 0, 44, 2)", x.read(0, 0, 44, 2), 1);
        E.due("torn()", x.torn(), INDEX);
    }

    private static void wholeOnesCome() {
        E.sentence("promise 32", "What the machine refuses: those that were whole ahead come (its FAULT is asked by torn()).");
        MissingHoles x = new MissingHoles();
        x.sheet(0, 2, 15);
        lay(x, 0, 0, 1, 0, 0, 0, 0, 2, 0, 0, 0, 0, 3, 0, 1, 1, 1);
        E.due("read, the fourth misses a CELL", x.read(0, 2, 0, 4), 3);
        E.due("torn()", x.torn(), INDEX);
        int[] want = {3, 0, 1, 1, 1, 1, 2, 3, 0, 0};
        for (int what = 0; what < 10; what++) {
            E.due("known(" + what + ")", x.known(what), want[what]);
        }
        E.due("one ACT", x.count(4), 1);
        lay(x, 0, 12, -1, -1, 99);
        E.due("read, what is not whole may hold anything", x.read(0, 2, 0, 4), 3);
        lay(x, 0, 12, MAX, MIN, 0);
        E.due("read, what is not whole may hold anything", x.read(0, 2, 8, 2), 1);
        E.due("known(7)", x.known(7), 9);
    }

    private static void homesThatAreBad() {
        E.sentence("promise 32", "-20 less i: HOME i, whole, has a CELL below 0 or more than 3 holes");
        for (int lane = 0; lane < 3; lane++) {
            for (int i = 0; i < 12; i++) {
                for (int p = 0; p < 4; p++) {
                    MissingHoles x = new MissingHoles();
                    x.sheet(0, lane, 48);
                    x.lay(0, 4 * i + p, -1);
                    E.due("read, HOME " + i + " has -1", x.read(0, lane, 0, 12), -20 - i);
                    E.due("read of those ahead", x.read(0, lane, 0, i), i);
                    x.lay(0, 4 * i + p, 4);
                    E.due("read, HOME " + i + " has 4", x.read(0, lane, 0, 12), -20 - i);
                    x.lay(0, 4 * i + p, 3);
                    E.due("read, HOME " + i + " has 3", x.read(0, lane, 0, 12), 12);
                    x.lay(0, 4 * i + (p + 1) % 4, 1);
                    E.due("read, HOME " + i + " has 3 and 1", x.read(0, lane, 0, 12), -20 - i);
                    x.lay(0, 4 * i + (p + 1) % 4, -1);
                    E.due("read, HOME " + i + " has 3 and -1", x.read(0, lane, 0, 12), -20 - i);
                }
            }
        }
        int[][] bad = {{1, 1, 1, 1}, {2, 2, 0, 0}, {0, 0, 2, 2}, {3, 3, 3, 3}, {-1, 1, 1, 1}, {4, -1, 0, 0}, {127, 127, 0, 0},
            {MAX, 1, 0, 0}, {MAX, MAX, 2, 0}, {MIN, MIN, 0, 0}, {MAX, MAX, 5, 0}, {MIN, 0, MIN, 3}, {5, -2, 0, 0}};
        int[][] good = {{0, 0, 0, 0}, {1, 1, 1, 0}, {0, 1, 1, 1}, {3, 0, 0, 0}, {0, 0, 0, 3}, {1, 0, 0, 2}};
        for (int[] cells : bad) {
            MissingHoles x = new MissingHoles();
            x.sheet(1, 2, 4);
            lay(x, 1, 0, cells);
            E.due("read of " + cells[0] + " " + cells[1] + " " + cells[2] + " " + cells[3], x.read(1, 2, 0, 1), -20);
        }
        for (int[] cells : good) {
            MissingHoles x = new MissingHoles();
            x.sheet(1, 2, 4);
            lay(x, 1, 0, cells);
            E.due("read of " + cells[0] + " " + cells[1] + " " + cells[2] + " " + cells[3], x.read(1, 2, 0, 1), 1);
        }
    }

    private static void noneCame() {
        E.sentence("promise 32", "then none came");
        MissingHoles x = new MissingHoles();
        x.sheet(0, 0, 14);
        x.read(1, 0, 0, 1);
        x.told(5, 4, 64);
        lay(x, 0, 0, 1, 1, 1, 0, 0, 0, 0, 0, 2, 2);
        E.refused(x, "read, HOME 2 is bad", () -> x.read(0, 0, 0, 3), -22);
        E.due("torn() is of the read before", x.torn(), NULL);
        E.refused(x, "read, HOME 2 is bad ahead of what is torn", () -> x.read(0, 0, 0, 4), -22);
        E.refused(x, "read, HOME 0 is bad", () -> x.read(0, 0, 8, 1), -20);
        E.due("undo() takes the told ones back", x.undo(), 1);
        E.due("known(0)", x.known(0), 0);
    }

    private static void readFull() {
        E.sentence("promise 32", "FULL: more than 999 (asked as each is whole): likewise");
        for (int n = 1; n <= 12; n++) {
            MissingHoles x = new MissingHoles();
            x.sheet(0, 1, 48);
            int homes = n;
            fill(x, 999 - n);
            E.due("read of " + n + " up to 999", x.read(0, 1, 0, n), n);
            E.due("count(0)", x.count(0), 999);
            E.refused(x, "read of 1 at 999", () -> x.read(0, 1, 0, 1), FULL);
            x.undo();
            if (n < 12) {
                E.refused(x, "read of " + (n + 1) + " up to 1000", () -> x.read(0, 1, 0, homes + 1), FULL);
                E.refused(x, "read of 12", () -> x.read(0, 1, 0, 12), FULL);
            }
            // only whole ones are asked: n are whole, then the row ends
            E.due("read of those that are whole", x.read(0, 1, 48 - 4 * n, 12), n);
            E.due("torn()", x.torn(), n == 12 ? 0 : INDEX);
            E.due("count(0)", x.count(0), 999);
            E.due("read of 0 at 999", x.read(0, 1, 0, 0), 0);
            E.due("torn()", x.torn(), 0);
            E.due("read of nothing at 999", x.read(3, 1, 0, 12), 0);
            E.due("torn()", x.torn(), NULL);
            E.due("read of another lane at 999", x.read(0, 2, 0, 12), 0);
            E.due("torn()", x.torn(), CAST);
            E.due("read of no whole one at 999", x.read(0, 1, 45, 12), 0);
            E.due("torn()", x.torn(), INDEX);
        }
    }

    private static void fill(MissingHoles x, int sorties) {
        for (int left = sorties; left > 0; left -= 99) {
            x.told(Math.min(left, 99), 0, 0);
        }
    }

    private static void firstMet() {
        E.sentence("promise 32", "the first met.");
        MissingHoles x = new MissingHoles();
        x.sheet(0, 0, 14);
        fill(x, 997);
        x.lay(0, 4, 9);
        E.refused(x, "a bad one ahead of FULL", () -> x.read(0, 0, 0, 3), -21);
        x.lay(0, 4, 0);
        x.lay(0, 11, 9);
        x.sheet(1, 0, 16);
        x.lay(1, 12, 9);
        E.refused(x, "FULL ahead of a bad one", () -> x.read(1, 0, 0, 4), FULL);
        E.refused(x, "both by one HOME: the bad one", () -> x.read(0, 0, 0, 3), -22);
        x.lay(0, 11, 0);
        E.refused(x, "FULL ahead of what is torn", () -> x.read(0, 0, 0, 12), FULL);
        E.due("what is torn ahead of FULL", x.read(0, 0, 6, 12), 2);
        E.due("torn()", x.torn(), INDEX);
        x.undo();
        x.lay(0, 0, 9);
        E.refused(x, "BAD ahead of a bad HOME", () -> x.read(0, 0, 0, 13), BAD);
        E.due("CAST ahead of a bad HOME", x.read(0, 1, 0, 1), 0);
        E.due("torn()", x.torn(), CAST);
    }

    private static void readsAreActs() {
        E.sentence("Terms", "read (n 0, too; not refused ones)");
        MissingHoles x = new MissingHoles();
        x.sheet(0, 0, 6);
        for (int i = 1; i <= 10; i++) {
            E.due("read of 0", x.read(0, 0, 0, 0), 0);
            E.due("count(4)", x.count(4), Math.min(i, 8));
        }
        E.due("read of 2, one is torn", x.read(0, 0, 0, 2), 1);
        E.due("undo()", x.undo(), 7);
        E.due("count(0)", x.count(0), 0);
        E.due("torn() stays behind undo()", x.torn(), INDEX);
        for (int i = 6; i >= 0; i--) {
            E.due("undo()", x.undo(), i);
        }
        E.due("undo()", x.undo(), NONE);
        x.lay(0, 0, 9);
        E.refused(x, "read of a bad one", () -> x.read(0, 0, 0, 1), -20);
        E.refused(x, "read of 13", () -> x.read(0, 0, 0, 13), BAD);
        E.due("undo()", x.undo(), NONE);
    }

    private static void holesOfHomes() {
        E.sentence("promise 32", "HOMES (holes of PARTS 0 to 3; a SORTIE each) .. four CELLS each from CELL f on");
        for (int f = 0; f < 12; f++) {
            MissingHoles x = new MissingHoles();
            x.sheet(3, 0, 24);
            lay(x, 3, f, 0, 1, 0, 2, 1, 0, 0, 0, 0, 0, 2, 0);
            E.due("read from " + f, x.read(3, 0, f, 3), 3);
            int[] want = {3, 0, 1, 1, 1, 1, 1, 2, 2, 0};
            for (int what = 0; what < 10; what++) {
                E.due("known(" + what + ")", x.known(what), want[what]);
            }
            E.due("count(1)", x.count(1), 3);
        }
        MissingHoles x = new MissingHoles();
        x.sheet(0, 2, 48);
        for (int i = 0; i < 48; i++) {
            x.lay(0, i, -1);
        }
        // what stands ahead of CELL f and behind the last HOME is not looked at; each HOME has its own three
        lay(x, 0, 8, 0, 0, 0, 3, 3, 0, 0, 0, 0, 3, 0, 0);
        E.due("read among bad CELLS", x.read(0, 2, 8, 3), 3);
        E.due("known(4)", x.known(4), 3);
        E.due("read of one of them", x.read(0, 2, 12, 1), 1);
        E.due("read of one more", x.read(0, 2, 8, 4), -23);
        E.due("read from one CELL ahead", x.read(0, 2, 7, 1), -20);
    }

    private static void torn() {
        E.sentence("promise 33", "The FAULT of the latest read() that came to an end; 0.");
        MissingHoles x = new MissingHoles();
        E.due("torn() ahead of all reads", x.torn(), 0);
        x.sheet(0, 0, 6);
        x.lay(0, 4, -1);
        int[][] reads = {{1, 0, 0, 1, NULL}, {0, 0, 0, 2, INDEX}, {0, 1, 0, 1, CAST}, {0, 0, 0, 1, 0}, {0, 2, 0, 12, CAST},
            {0, 0, 0, 0, 0}};
        for (int[] r : reads) {
            x.read(r[0], r[1], r[2], r[3]);
            E.due("torn()", x.torn(), r[4]);
            x.read(0, 0, 1, 1);
            E.due("torn() behind a bad HOME", x.torn(), r[4]);
            x.read(0, 0, 0, 13);
            x.read(4, 0, 0, 1);
            x.read(0, 3, 0, 1);
            E.due("torn() behind BAD", x.torn(), r[4]);
            x.lay(0, 9, 0);
            x.lay(3, 0, 0);
            x.sheet(0, 0, -1);
            E.due("torn() is of reads alone", x.torn(), r[4]);
        }
        MissingHoles full = new MissingHoles();
        full.sheet(0, 0, 4);
        fill(full, 999);
        full.read(0, 1, 0, 1);
        full.read(0, 0, 0, 1);
        E.due("torn() behind FULL", full.torn(), CAST);
    }

    private static void counts() {
        E.sentence("promise 34", "0 SORTIES, 1 homes, 2 WRECKS, 3 PARTS with GROUND, 4 ACTS, 5 the seed, 6 bytes, 7 CELLS of SHEET 0 (NONE: nothing), 8 .. fell by a hit. BAD.");
        MissingHoles x = new MissingHoles();
        for (int what : new int[] {-1, 9, 10, MIN, MAX}) {
            E.refused(x, "count(" + what + ")", () -> x.count(what), BAD);
        }
        E.due("count(7), nothing", x.count(7), NONE);
        x.sheet(1, 0, 7);
        x.sheet(2, 0, 7);
        x.sheet(3, 0, 7);
        E.due("count(7), the others do not count", x.count(7), NONE);
        for (int n : new int[] {0, 1, 48, 5}) {
            x.sheet(0, n % 3, n);
            E.due("count(7)", x.count(7), n);
        }
        for (int p = 0; p < 4; p++) {
            x.wreck(p, true);
            x.ground(p, 1, 0);
            E.due("count(2)", x.count(2), p + 1);
            E.due("count(3)", x.count(3), p + 1);
        }
        x.seed(-3);
        E.due("count(5), the seed may look like an answer", x.count(5), -3);
        x.seed(MIN);
        E.due("count(5)", x.count(5), MIN);
        x.feed(0L);
        E.due("count(6)", x.count(6), 8);
        x.end(3);
        E.due("count(6)", x.count(6), 3);
        fell();
    }

    private static void fell() {
        E.sentence("promise 34", "8 SORTIES of those that were DRAWN that fell by a hit (in truth)");
        MissingHoles x = Edges.taken("hits 0 1 0 0;falls a 10;falls b 10;falls c 10;falls d 10;");
        x.told(50, 0, 0);
        E.due("count(8), told ones do not count", x.count(8), 0);
        x.draw(7);
        E.due("count(8)", x.count(8), 7);
        x.draw(99);
        E.due("count(8)", x.count(8), 106);
        Edges.told(x, "other 999;hits 0 1 0 0;");
        int ahead = x.count(8);
        x.draw(20);
        E.due("count(8), other ends do not count", x.count(8), ahead);
        x.undo();
        x.undo();
        E.due("count(8), those taken back do not count", x.count(8), 7);
        x.undo();
        x.undo();
        E.due("count(8)", x.count(8), 0);
        // beyond the latest 8 nothing is taken back
        MissingHoles y = Edges.taken("hits 0 1 0 0;falls a 10;falls b 10;falls c 10;falls d 10;");
        for (int i = 0; i < 10; i++) {
            y.draw(1);
        }
        while (y.undo() >= 0) {
            E.due("count(8) is all that fell", y.count(8), y.count(0));
        }
        E.due("count(8), two can not be taken back", y.count(8), 2);
    }
}
