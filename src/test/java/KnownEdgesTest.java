import java.util.List;

/** The edges of what is known: SORTIES told and DRAWN, WRECKS, GROUND, ACTS: promises 8 to 14. */
public final class KnownEdgesTest {
    private static final Edges E = new Edges();
    private static final int BAD = Edges.BAD, FULL = Edges.FULL, NONE = Edges.NONE, MIN = Edges.MIN, MAX = Edges.MAX;

    public static void main(String[] args) {
        toldNumbers();
        toldHoles();
        toldFull();
        drawNumbers();
        drawFull();
        drawOther();
        drawHits();
        drawParts();
        drawFalls();
        drawStops();
        drawSeedBits();
        drawnMany();
        seeds();
        wrecks();
        grounds();
        known();
        undoEight();
        undoWhat();
        undoSeed();
        E.finish();
    }

    private static MissingHoles filled(int sorties) {
        MissingHoles x = new MissingHoles();
        fill(x, sorties);
        return x;
    }

    private static void fill(MissingHoles x, int sorties) {
        for (int left = sorties; left > 0; left -= 99) {
            x.told(Math.min(left, 99), 0, 0);
        }
    }

    private static void toldNumbers() {
        E.sentence("promise 8", "n (1 to 99) SORTIES are told, of which so many (0 to n) came home. BAD");
        MissingHoles x = new MissingHoles();
        E.due("told(1, 0, 0)", x.told(1, 0, 0), 1);
        E.due("told(1, 1, 0)", x.told(1, 1, 0), 2);
        E.due("told(99, 0, 0)", x.told(99, 0, 0), 101);
        E.due("told(99, 99, 0)", x.told(99, 99, 0), 200);
        E.due("known(1)", x.known(1), 100);
        E.due("known(9)", x.known(9), 100);
        for (int n : new int[] {0, -1, -99, 100, 101, MIN, MAX}) {
            E.refused(x, "told(" + n + ", 0, 0)", () -> x.told(n, 0, 0), BAD);
            E.refused(x, "told(" + n + ", n, 0)", () -> x.told(n, n, 0), BAD);
            E.refused(x, "told(" + n + ", 1, 0)", () -> x.told(n, 1, 0), BAD);
        }
        for (int homes : new int[] {-1, -5, 6, 7, 99, MIN, MAX}) {
            E.refused(x, "told(5, " + homes + ", 0)", () -> x.told(5, homes, 0), BAD);
        }
        E.refused(x, "told(1, 2, 0)", () -> x.told(1, 2, 0), BAD);
        E.refused(x, "told(99, 100, 0)", () -> x.told(99, 100, 0), BAD);
        E.refused(x, "told(1, -1, 0)", () -> x.told(1, -1, 0), BAD);
    }

    private static void toldHoles() {
        E.sentence("promise 8", "each with the same holes (figures to the base 4, PART 0 the highest; 3 in all at most)");
        for (int a = 0; a < 4; a++) {
            for (int b = 0; b < 4; b++) {
                for (int c = 0; c < 4; c++) {
                    for (int d = 0; d < 4; d++) {
                        toldHoles(a, b, c, d);
                    }
                }
            }
        }
        MissingHoles x = new MissingHoles();
        for (int holes : new int[] {-1, -64, 256, 257, 320, 65536, MIN, MIN + 1, MAX}) {
            E.refused(x, "told(5, 5, " + holes + ")", () -> x.told(5, 5, holes), BAD);
            E.refused(x, "told(5, 0, " + holes + "), though none came home", () -> x.told(5, 0, holes), BAD);
        }
    }

    private static void toldHoles(int a, int b, int c, int d) {
        MissingHoles x = new MissingHoles();
        int holes = a * 64 + b * 16 + c * 4 + d;
        String call = "told(7, 5, " + holes + ")";
        if (a + b + c + d > 3) {
            E.due(call, x.told(7, 5, holes), BAD);
            E.due(call + ", none is home", x.told(7, 0, holes), BAD);
            E.due(call + " is no ACT", x.count(4), 0);
            E.due(call + " brings no SORTIE", x.count(0), 0);
            return;
        }
        E.due(call, x.told(7, 5, holes), 7);
        int[] want = {7, 0, 0, 0, 0, 5 * a, 5 * b, 5 * c, 5 * d, 2};
        want[1 + a + b + c + d] = 5;
        for (int what = 0; what < 10; what++) {
            E.due("known(" + what + ") behind " + call, x.known(what), want[what]);
        }
        E.due("count(1)", x.count(1), 5);
        E.due("undo()", x.undo(), 0);
        for (int what = 0; what < 10; what++) {
            E.due("known(" + what + ") behind undo()", x.known(what), 0);
        }
    }

    private static void toldFull() {
        E.sentence("promise 8", "FULL: more than 999.");
        for (int n : new int[] {1, 2, 50, 98, 99}) {
            MissingHoles x = filled(999 - n);
            E.due("told(" + n + ") up to 999", x.told(n, n, 64), 999);
            E.refused(x, "told(1) at 999", () -> x.told(1, 0, 0), FULL);
            E.refused(x, "told(99) at 999", () -> x.told(99, 99, 64), FULL);
            x.undo();
            if (n < 99) {
                E.refused(x, "told(" + (n + 1) + ") up to 1000", () -> x.told(n + 1, 0, 0), FULL);
            }
            E.due("told(" + n + ") again", x.told(n, 0, 0), 999);
        }
        E.sentence("Terms", "BAD .. FULL .. the first that fits (told)");
        MissingHoles x = filled(999);
        E.refused(x, "told(0, 0, 0)", () -> x.told(0, 0, 0), BAD);
        E.refused(x, "told(100, 0, 0)", () -> x.told(100, 0, 0), BAD);
        E.refused(x, "told(5, 6, 0)", () -> x.told(5, 6, 0), BAD);
        E.refused(x, "told(5, 5, 85)", () -> x.told(5, 5, 85), BAD);
        E.refused(x, "told(5, 5, 256)", () -> x.told(5, 5, 256), BAD);
    }

    private static void drawNumbers() {
        E.sentence("promise 9", "n (1 to 99) SORTIES are DRAWN: how many came home. BAD");
        MissingHoles x = Edges.taken("hits 1 0 0 0;");
        E.due("draw(1)", x.draw(1), 1);
        E.due("draw(99)", x.draw(99), 99);
        E.due("known(0)", x.known(0), 100);
        E.due("known(1)", x.known(1), 100);
        for (int n : new int[] {0, -1, 100, 101, MIN, MAX}) {
            E.refused(x, "draw(" + n + ")", () -> x.draw(n), BAD);
        }
    }

    private static void drawFull() {
        E.sentence("promise 9", "BAD; FULL.");
        for (int n : new int[] {1, 2, 98, 99}) {
            MissingHoles x = filled(999 - n);
            Edges.told(x, "hits 1 0 0 0;");
            x.seed(-5);
            if (n < 99) {
                E.refused(x, "draw(" + (n + 1) + ") up to 1000", () -> x.draw(n + 1), FULL);
            }
            E.due("the seed stays", x.count(5), -5);
            E.due("draw(" + n + ") up to 999", x.draw(n), n);
            E.due("known(0)", x.known(0), 999);
            E.refused(x, "draw(1) at 999", () -> x.draw(1), FULL);
            E.refused(x, "draw(99) at 999", () -> x.draw(99), FULL);
            E.refused(x, "draw(0) at 999", () -> x.draw(0), BAD);
            E.refused(x, "draw(100) at 999", () -> x.draw(100), BAD);
            E.refused(x, "draw(MAX) at 999", () -> x.draw(MAX), BAD);
        }
    }

    private static int next(int seed) {
        return (int) (seed * 1103515245L + 12345L);
    }

    /** The number below 32768 that comes behind a seed. */
    private static int raw(int seed) {
        return next(seed) >> 16 & 0x7fff;
    }

    private static int later(int seed, int steps) {
        int s = seed;
        for (int i = 0; i < steps; i++) {
            s = next(s);
        }
        return s;
    }

    private static void drawOther() {
        E.sentence("Terms", "DRAW of 1000 below OTHER: another end.");
        for (int seed : new int[] {0, 7, -1, MIN, MAX, 99999, -740551042}) {
            int roll = raw(seed) % 1000;
            if (roll > 0) {
                MissingHoles just = Edges.taken("hits 1 0 0 0;other " + roll + ";");
                just.seed(seed);
                E.due("draw(1), as many as OTHER", just.draw(1), 1);
                E.due("the seed: two were drawn", just.count(5), later(seed, 2));
            }
            if (roll < 999) {
                MissingHoles below = Edges.taken("hits 1 0 0 0;other " + (roll + 1) + ";");
                below.seed(seed);
                E.due("draw(1), one below OTHER", below.draw(1), 0);
                E.due("the seed: one was drawn", below.count(5), later(seed, 1));
                E.due("known(9)", below.known(9), 1);
                E.due("count(8), it fell by no hit", below.count(8), 0);
            }
        }
        MissingHoles first = Edges.taken("other 1;hits 1 0 0 0;");
        E.due("draw(1), 0 is below 1", first.draw(1), 0);
        MissingHoles none = Edges.taken("other 0;hits 1 0 0 0;");
        E.due("draw(1), 0 is not below 0", none.draw(1), 1);
    }

    private static void drawHits() {
        E.sentence("Terms", "DRAW of all HITS (the weights one behind another, 0 hits first)");
        // falls are 0, so that a machine comes home with as many holes as it has hits
        String safe = "falls a 0;falls b 0;falls c 0;falls d 0;";
        int[][] weights = {{1, 2, 3, 4}, {0, 0, 1, 1}, {1, 0, 0, 1}, {0, 1, 0, 0}, {99, 99, 99, 99}, {0, 5, 0, 7}, {1, 1, 1, 1}};
        for (int[] w : weights) {
            MissingHoles x = Edges.taken(safe + "hits " + w[0] + " " + w[1] + " " + w[2] + " " + w[3] + ";");
            int[] homes = new int[4];
            for (int i = 0; i < 40; i++) {
                int seed = 77 * i - 1000;
                int roll = raw(next(seed)) % (w[0] + w[1] + w[2] + w[3]);
                int n = roll < w[0] ? 0 : roll < w[0] + w[1] ? 1 : roll < w[0] + w[1] + w[2] ? 2 : 3;
                x.seed(seed);
                E.due("draw(1)", x.draw(1), 1);
                homes[n]++;
                E.due("homes with " + n + " holes", x.known(1 + n), homes[n]);
                E.due("the seed: two, and two for each hit", x.count(5), later(seed, 2 + 2 * n));
            }
        }
    }

    private static void drawParts() {
        E.sentence("Terms", "DRAW of all AREAS: a PART (likewise)");
        String safe = "falls a 0;falls b 0;falls c 0;falls d 0;hits 0 1 0 0;";
        int[][] areas = {{1, 1, 1, 1}, {20, 20, 20, 20}, {1, 2, 3, 4}, {20, 1, 1, 20}};
        for (int[] w : areas) {
            MissingHoles x = Edges.taken(safe + "area a " + w[0] + ";area b " + w[1] + ";area c " + w[2] + ";area d " + w[3] + ";");
            int[] holes = new int[4];
            for (int i = 0; i < 60; i++) {
                int seed = 991 * i + 5;
                int roll = raw(later(seed, 2)) % (w[0] + w[1] + w[2] + w[3]);
                int p = roll < w[0] ? 0 : roll < w[0] + w[1] ? 1 : roll < w[0] + w[1] + w[2] ? 2 : 3;
                x.seed(seed);
                x.draw(1);
                holes[p]++;
                E.due("holes of PART " + p, x.known(5 + p), holes[p]);
            }
        }
    }

    private static void drawFalls() {
        E.sentence("Terms", "DRAW of 10 below its FALLS: it fell (no more is drawn). Else it is home with n holes.");
        for (int seed = -40; seed <= 40; seed++) {
            int part = raw(later(seed, 2)) % 40 / 10;
            int roll = raw(later(seed, 3)) % 10;
            String name = "hits 0 1 0 0;falls " + (char) ('a' + part) + " ";
            MissingHoles up = Edges.taken(name + roll + ";");
            up.seed(seed);
            E.due("draw(1), as many as FALLS", up.draw(1), 1);
            E.due("one hole in its PART", up.known(5 + part), 1);
            E.due("count(8)", up.count(8), 0);
            MissingHoles down = Edges.taken(name + (roll + 1) + ";");
            down.seed(seed);
            E.due("draw(1), one below FALLS", down.draw(1), 0);
            E.due("no hole is known", down.known(5 + part), 0);
            E.due("count(8)", down.count(8), 1);
            E.due("known(9)", down.known(9), 1);
        }
        MissingHoles all = Edges.taken("hits 0 0 0 1;falls a 10;falls b 10;falls c 10;falls d 10;");
        E.due("draw(99), FALLS 10", all.draw(99), 0);
        E.due("count(8)", all.count(8), 99);
        MissingHoles none = Edges.taken("hits 0 0 0 1;falls a 0;falls b 0;falls c 0;falls d 0;");
        E.due("draw(99), FALLS 0", none.draw(99), 99);
        E.due("known(4)", none.known(4), 99);
        E.due("count(8)", none.count(8), 0);
    }

    private static void drawStops() {
        E.sentence("Terms", "it fell (no more is drawn)");
        MissingHoles x = Edges.taken("hits 0 0 0 1;falls a 10;falls b 10;falls c 10;falls d 10;");
        x.seed(12345);
        x.draw(1);
        E.due("the seed: other end, hits, one PART, one fall", x.count(5), later(12345, 4));
        // the second hit brings it down: what the first left is not known
        for (int seed = 0; seed < 60; seed++) {
            MissingHoles y = Edges.taken("hits 0 0 0 1;falls a 5;falls b 5;falls c 5;falls d 5;");
            int hits = 0;
            while (hits < 3 && raw(later(seed, 3 + 2 * hits)) % 10 >= 5) {
                hits++;
            }
            y.seed(seed);
            E.due("draw(1)", y.draw(1), hits == 3 ? 1 : 0);
            E.due("the seed", y.count(5), later(seed, hits == 3 ? 8 : 4 + 2 * hits));
            E.due("holes", y.known(5) + y.known(6) + y.known(7) + y.known(8), hits == 3 ? 3 : 0);
            E.due("count(8)", y.count(8), hits == 3 ? 0 : 1);
        }
    }

    private static void drawSeedBits() {
        E.sentence("Terms", "the seed becomes seed times 1103515245 and 12345 (an int); bits 16 to 30 of it modulo k");
        for (int seed : new int[] {0, 1, -1, MIN, MAX, 1 << 30, 65535, 65536}) {
            MissingHoles x = Edges.taken("hits 1 0 0 0;");
            x.seed(seed);
            x.draw(1);
            E.due("the seed behind " + seed, x.count(5), later(seed, 2));
            // bit 31 is never looked at, and never comes down into the others
            MissingHoles a = new MissingHoles();
            MissingHoles b = new MissingHoles();
            a.seed(seed);
            b.seed(seed ^ MIN);
            for (int i = 0; i < 5; i++) {
                E.due("draw(20) by seeds that differ in bit 31", a.draw(20), b.draw(20));
            }
            E.due("the seeds still differ in bit 31", a.count(5) ^ MIN, b.count(5));
        }
        MissingHoles x = new MissingHoles();
        x.seed(0);
        Edges.told(x, "hits 1 0 0 0;");
        x.draw(1);
        E.due("two steps from 0", x.count(5), -740551042);
        // a number above 16383 has bit 30 set: 1000 times 32 is above 16383 and below 32768
        for (int seed = 0; seed < 30; seed++) {
            int roll = raw(seed) % 1000;
            if (raw(seed) > 16383 && roll < 999) {
                MissingHoles y = Edges.taken("hits 1 0 0 0;other " + (roll + 1) + ";");
                y.seed(seed);
                E.due("draw(1) with bit 30 set", y.draw(1), 0);
            }
        }
    }

    private static void drawnMany() {
        E.sentence("promise 9", "n SORTIES are DRAWN: one behind another from one seed");
        for (int seed : new int[] {0, 5, -77}) {
            MissingHoles one = Edges.taken("other 100;falls a 5;hits 1 2 3 4;");
            MissingHoles many = Edges.taken("other 100;falls a 5;hits 1 2 3 4;");
            one.seed(seed);
            many.seed(seed);
            int came = 0;
            for (int i = 0; i < 99; i++) {
                came += one.draw(1);
            }
            E.due("draw(99)", many.draw(99), came);
            E.due("the seed", many.count(5), one.count(5));
            for (int what = 0; what < 10; what++) {
                E.due("known(" + what + ")", many.known(what), one.known(what));
            }
            E.due("count(8)", many.count(8), one.count(8));
            E.due("count(4), one call is one", many.count(4), 1);
            E.due("count(4), the latest 8", one.count(4), 8);
        }
    }

    private static void seeds() {
        E.sentence("promise 10", "The seed becomes v: what it was.");
        MissingHoles x = new MissingHoles();
        int was = 0;
        for (int v : new int[] {1, -1, MIN, MAX, 0, 0, 12345}) {
            E.due("seed(" + v + ")", x.seed(v), was);
            E.due("count(5)", x.count(5), v);
            was = v;
        }
        E.due("a text leaves the seed", Edges.told(x, "slip 3;"), 1);
        E.due("count(5)", x.count(5), 12345);
    }

    private static void wrecks() {
        E.sentence("promise 11", "A WRECK of a PART is found, or not any more: whether there was one (1, 0).");
        MissingHoles x = new MissingHoles();
        for (int p = 0; p < 4; p++) {
            E.due("wreck(" + p + ", false), none", x.wreck(p, false), 0);
            E.due("count(2)", x.count(2), p);
            E.due("wreck(" + p + ", true)", x.wreck(p, true), 0);
            E.due("count(2)", x.count(2), p + 1);
            E.due("wreck(" + p + ", true) again", x.wreck(p, true), 1);
            E.due("count(2)", x.count(2), p + 1);
            E.due("span of it", x.span(p, 0), 1);
        }
        E.due("laws(1)", x.laws(1), Edges.law(1, 1, 1, 1));
        for (int p = 0; p < 4; p++) {
            E.due("wreck(" + p + ", false)", x.wreck(p, false), 1);
            E.due("count(2)", x.count(2), 3 - p);
            E.due("wreck(" + p + ", false) again", x.wreck(p, false), 0);
            E.due("span of it", x.span(p, 0), 0);
        }
        E.sentence("promise 11", "BAD.");
        x.wreck(1, true);
        for (int p : new int[] {-1, 4, 5, MIN, MAX}) {
            E.refused(x, "wreck(" + p + ", true)", () -> x.wreck(p, true), BAD);
            E.refused(x, "wreck(" + p + ", false)", () -> x.wreck(p, false), BAD);
        }
    }

    private static void grounds() {
        E.sentence("promise 12", "GROUND of a PART: shots (0 to 20), of which f (0 to shots): the shots that were told.");
        MissingHoles x = new MissingHoles();
        for (int p = 0; p < 4; p++) {
            int was = 0;
            for (int shots : new int[] {1, 20, 19, 0, 0, 2}) {
                E.due("ground(" + p + ", " + shots + ", 0)", x.ground(p, shots, 0), was);
                E.due("ground(" + p + ", " + shots + ", " + shots + ")", x.ground(p, shots, shots), shots);
                E.due("count(3)", x.count(3), shots == 0 ? p : p + 1);
                was = shots;
            }
        }
        E.sentence("promise 12", "BAD.");
        for (int p : new int[] {-1, 4, MIN, MAX}) {
            E.refused(x, "ground(" + p + ", 5, 5)", () -> x.ground(p, 5, 5), BAD);
            E.refused(x, "ground(" + p + ", 0, 0)", () -> x.ground(p, 0, 0), BAD);
        }
        for (int shots : new int[] {-1, 21, 22, MIN, MAX}) {
            E.refused(x, "ground(0, " + shots + ", 0)", () -> x.ground(0, shots, 0), BAD);
            E.refused(x, "ground(0, " + shots + ", shots)", () -> x.ground(0, shots, shots), BAD);
        }
        for (int f : new int[] {-1, 6, 20, MIN, MAX}) {
            E.refused(x, "ground(0, 5, " + f + ")", () -> x.ground(0, 5, f), BAD);
        }
        E.refused(x, "ground(0, 0, 1)", () -> x.ground(0, 0, 1), BAD);
        E.refused(x, "ground(0, 20, 21)", () -> x.ground(0, 20, 21), BAD);
        E.refused(x, "ground(0, 0, -1)", () -> x.ground(0, 0, -1), BAD);

        E.sentence("Terms", "GROUND: for each PART the latest trial: shots (0 to 20; 0: none)");
        MissingHoles y = new MissingHoles();
        y.ground(2, 20, 20);
        E.due("span, 20 of 20", y.span(2, 0), 10);
        y.ground(2, 20, 0);
        E.due("span, the latest is 0 of 20", y.span(2, 1), 0);
        y.ground(2, 0, 0);
        E.due("laws(0), none", y.laws(0), 14641);
    }

    private static void known() {
        E.sentence("promise 13", "0 SORTIES, 1 to 4 homes with 0 to 3 holes, 5 to 8 holes of PARTS 0 to 3, 9 how many did not come home. BAD.");
        MissingHoles x = new MissingHoles();
        x.told(10, 9, 0);
        x.told(20, 8, 64);
        x.told(30, 7, 20);
        x.told(40, 6, 3);
        int[] want = {100, 9, 8, 7, 6, 8, 7, 7, 18, 70};
        for (int what = 0; what < 10; what++) {
            E.due("known(" + what + ")", x.known(what), want[what]);
        }
        for (int what : new int[] {-1, 10, 11, MIN, MAX}) {
            E.refused(x, "known(" + what + ")", () -> x.known(what), BAD);
        }
        MissingHoles most = new MissingHoles();
        for (int i = 0; i < 10; i++) {
            most.told(99, 99, 192);
        }
        most.told(9, 9, 192);
        E.due("known(5), the most holes", most.known(5), 2997);
        E.due("known(9), all are home", most.known(9), 0);
    }

    private static void undoEight() {
        E.sentence("Terms", "ACTS that can be taken back (the latest 8)");
        for (int acts = 0; acts <= 20; acts++) {
            MissingHoles x = new MissingHoles();
            for (int i = 1; i <= acts; i++) {
                x.told(i, i, 1);
                E.due("count(4) behind ACT " + i, x.count(4), Math.min(i, 8));
            }
            int kept = Math.min(acts, 8);
            for (int i = 0; i < kept; i++) {
                E.due("undo()", x.undo(), kept - 1 - i);
                int left = acts - 1 - i;
                E.due("known(0)", x.known(0), left * (left + 1) / 2);
                E.due("known(8)", x.known(8), left * (left + 1) / 2);
            }
            E.refused(x, "undo() when none is left", x::undo, NONE);
            E.refused(x, "undo() once more", x::undo, NONE);
        }
        E.sentence("promise 14", "The latest ACT is taken back: how many more can be. NONE.");
        MissingHoles x = new MissingHoles();
        E.refused(x, "undo() of nothing", x::undo, NONE);
        for (int i = 0; i < 8; i++) {
            x.told(1, 1, 0);
        }
        E.due("undo()", x.undo(), 7);
        E.due("undo()", x.undo(), 6);
        x.told(50, 0, 0);
        E.due("count(4)", x.count(4), 7);
        x.told(60, 0, 0);
        x.told(70, 0, 0);
        E.due("count(4)", x.count(4), 8);
        E.due("undo() of the newest", x.undo(), 7);
        E.due("known(0)", x.known(0), 116);
        for (int i = 6; i >= 0; i--) {
            E.due("undo()", x.undo(), i);
        }
        E.due("known(0), the first is kept for good", x.known(0), 1);
        E.due("undo()", x.undo(), NONE);
    }

    private static void undoWhat() {
        E.sentence("Terms", "SORTIES that were told, DRAWN (one call is one), read (n 0, too; not refused ones)");
        MissingHoles x = new MissingHoles();
        x.sheet(0, 0, 8);
        x.lay(0, 1, 2);
        int acts = 0;
        x.told(3, 2, 1);
        E.due("told", x.count(4), ++acts);
        x.draw(9);
        E.due("drawn", x.count(4), ++acts);
        x.read(0, 0, 0, 2);
        E.due("read", x.count(4), ++acts);
        x.read(0, 0, 0, 0);
        E.due("read, n 0", x.count(4), ++acts);
        x.read(1, 0, 0, 1);
        E.due("read of nothing", x.count(4), ++acts);
        x.read(0, 1, 0, 1);
        E.due("read as of another lane", x.count(4), ++acts);
        x.read(0, 0, 4, 12);
        E.due("read, torn", x.count(4), ++acts);
        x.told(0, 0, 0);
        x.draw(0);
        x.read(0, 0, 0, 13);
        x.lay(0, 0, 3);
        x.read(0, 0, 0, 1);
        x.seed(8);
        x.wreck(3, true);
        x.ground(3, 5, 2);
        x.sheet(2, 2, 2);
        Edges.told(x, "slip 9;");
        Edges.told(x, "?");
        E.due("what is refused or no ACT", x.count(4), acts);
        int[] sorties = {14, 14, 14, 14, 12, 3, 0};
        for (int i = 0; i < 7; i++) {
            E.due("undo()", x.undo(), 6 - i);
            E.due("known(0)", x.known(0), sorties[i]);
        }
        E.due("WRECKS stay", x.count(2), 1);
        E.due("GROUND stays", x.count(3), 1);
        E.due("the text stays", x.rule(5), 9);
        E.due("undo()", x.undo(), NONE);
        for (int what = 0; what < 10; what++) {
            E.due("known(" + what + ")", x.known(what), 0);
        }
    }

    private static void undoSeed() {
        E.sentence("promise 14", "(The seed stays.)");
        MissingHoles x = new MissingHoles();
        x.seed(42);
        List<Long> ahead = Edges.seen(x);
        x.draw(50);
        int seed = x.count(5);
        E.due("the seed moved", seed == 42 ? 1 : 0, 0);
        x.undo();
        E.due("count(5)", x.count(5), seed);
        x.seed(42);
        E.same("all else is as it was", Edges.seen(x), ahead);
        x.told(5, 5, 0);
        x.seed(7);
        x.undo();
        E.due("a seed that was set stays", x.count(5), 7);
    }
}
