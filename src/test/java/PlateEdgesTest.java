/** The edges of PLATES: LOST, BEST, SAFEST, the DRAWING, unlike LAWS, trials: promises 23 to 29. */
public final class PlateEdgesTest {
    private static final Edges E = new Edges();
    private static final int BAD = Edges.BAD, NONE = Edges.NONE, MIN = Edges.MIN, MAX = Edges.MAX;
    /** Three hits whatever plates weigh, one plate at most, each of the same weight. */
    private static final String ONE_PLATE = "hits 0 0 0 1;plate a 5;plate b 5;plate c 5;plate d 5;limit 5;slip 99;";

    public static void main(String[] args) {
        limit();
        lostBounds();
        halfDividedDown();
        weightBringsHits();
        lostEdges();
        best();
        safest();
        drawing();
        wrong();
        unlike();
        trialBounds();
        trialCounts();
        E.finish();
    }

    private static void lost(MissingHoles x, int law, int plates, long top, long bottom) {
        E.due("lost(" + law + ", " + plates + "), numerator", x.lost(law, plates, 0), top);
        E.due("lost(" + law + ", " + plates + "), denominator", x.lost(law, plates, 1), bottom);
    }

    private static void limit() {
        E.sentence("Terms", "PLATES: a set of PARTS (bits) whose WEIGHTS, summed, are LIMIT at most.");
        // each set weighs as many as its bits
        for (int limit = 0; limit <= 16; limit++) {
            MissingHoles x = Edges.taken("plate a 1;plate b 2;plate c 4;plate d 8;limit " + limit + ";");
            for (int plates = 0; plates < 16; plates++) {
                E.due("lost(0, " + plates + ", 0), LIMIT " + limit, x.lost(0, plates, 0), plates <= limit ? 0 : BAD);
                E.due("lost(0, " + plates + ", 1), LIMIT " + limit, x.lost(0, plates, 1), plates <= limit ? 1 : BAD);
            }
        }
        MissingHoles heavy = Edges.taken("plate a 20;plate b 20;plate c 20;plate d 20;limit 60;");
        MissingHoles less = Edges.taken("plate a 20;plate b 20;plate c 20;plate d 20;limit 59;");
        MissingHoles light = Edges.taken("plate a 0;plate b 0;plate c 0;plate d 0;limit 0;");
        for (int plates = 0; plates < 16; plates++) {
            int parts = Integer.bitCount(plates);
            E.due("lost of " + plates + ", 20 each, LIMIT 60", heavy.lost(0, plates, 1), parts <= 3 ? 1 : BAD);
            E.due("lost of " + plates + ", 20 each, LIMIT 59", less.lost(0, plates, 1), parts <= 2 ? 1 : BAD);
            E.due("lost of " + plates + ", which weigh nothing", light.lost(0, plates, 1), 1);
        }
    }

    private static void lostBounds() {
        E.sentence("promise 23", "LOST by a LAW with PLATES (bits): 0 the numerator, 1 the denominator. BAD: also more than LIMIT.");
        MissingHoles x = Edges.taken("plate a 0;plate b 0;plate c 0;plate d 0;");
        E.due("lost(0, 15, 1)", x.lost(0, 15, 1), 1);
        for (int plates : new int[] {-1, 16, 17, 31, -16, MIN, MAX}) {
            E.refused(x, "lost(0, " + plates + ", 0)", () -> x.lost(0, plates, 0), BAD);
            E.refused(x, "lost(14640, " + plates + ", 1)", () -> x.lost(14640, plates, 1), BAD);
        }
        for (int what : new int[] {-1, 2, 3, MIN, MAX}) {
            E.refused(x, "lost(0, 0, " + what + ")", () -> x.lost(0, 0, what), BAD);
            E.refused(x, "lost(0, 15, " + what + ")", () -> x.lost(0, 15, what), BAD);
        }
    }

    private static void halfDividedDown() {
        E.sentence("Terms", "By PLATES FALLS of their PARTS are half, divided down");
        MissingHoles x = Edges.taken("hits 0 1 0 0;plate a 0;plate b 0;plate c 0;plate d 0;");
        for (int p = 0; p < 4; p++) {
            for (int falls = 0; falls <= 10; falls++) {
                int law = Edges.lawOf(p, falls, 0);
                // one of four PARTS, FALLS of 10: FALLS by 40
                part(x, law, 0, falls);
                part(x, law, 1 << p, falls / 2);
                part(x, law, 15, falls / 2);
                part(x, law, 15 - (1 << p), falls);
            }
        }
    }

    private static void part(MissingHoles x, int law, int plates, int of40) {
        int common = 40;
        while (common > 1 && (40 % common != 0 || of40 % common != 0)) {
            common--;
        }
        lost(x, law, plates, of40 / common, 40 / common);
    }

    private static void weightBringsHits() {
        E.sentence("Terms", "with weight s, summed: HITS n become HITS n times 100 less s, and HITS n less 1 times s (3: HITS 3 times 100 and HITS 2 times s)");
        // X is half of all; the plates save none
        String parts = "area a 5;area b 5;area c 10;area d 20;plate a 20;plate b 20;plate c 20;plate d 1;limit 60;";
        int law = Edges.law(0, 0, 0, 10);
        long[][] by0 = {{0, 1}, {1, 2}, {3, 4}, {7, 8}};
        long[][] by20 = {{1, 10}, {11, 20}, {31, 40}, {7, 8}};
        long[][] by60 = {{3, 10}, {13, 20}, {33, 40}, {7, 8}};
        for (int n = 0; n < 4; n++) {
            MissingHoles x = Edges.taken(parts + "hits " + "0 ".repeat(n) + "7" + " 0".repeat(3 - n) + ";");
            lost(x, law, 0, by0[n][0], by0[n][1]);
            lost(x, law, 1, by20[n][0], by20[n][1]);
            lost(x, law, 4, by20[n][0], by20[n][1]);
            lost(x, law, 7, by60[n][0], by60[n][1]);
        }
        // all at once: HITS 40 100 100 160 of 400, homes 40 + 50 + 25 + 20, so that 265 of 400 are lost
        MissingHoles all = Edges.taken(parts + "hits 1 1 1 1;");
        lost(all, law, 7, 53, 80);
    }

    private static void lostEdges() {
        E.sentence("Terms", "LOST by a LAW and PLATES: 1 less SHARES of all homes.");
        MissingHoles sure = Edges.taken("hits 0 1 1 1;");
        lost(sure, 14640, 0, 1, 1);
        lost(sure, 0, 0, 0, 1);
        lost(sure, 0, 3, 0, 1);
        MissingHoles other = Edges.taken("hits 1 0 0 0;other 999;");
        lost(other, 0, 0, 999, 1000);
        lost(other, 14640, 0, 999, 1000);
        MissingHoles one = Edges.taken("hits 1 0 0 0;other 1;");
        lost(one, 0, 3, 1, 1000);
        // the largest denominator: 100 times all HITS times X to the 3 times 1000
        MissingHoles big = Edges.taken("area a 20;area b 20;area c 20;area d 19;hits 99 99 99 82;other 1;plate a 1;limit 1;");
        long bottom = 100L * 379 * 790 * 790 * 790 * 1000;
        long stand = 771;
        long homes = 99L * 99 * 790 * 790 * 790 + (99L * 99 + 99) * stand * 790 * 790 + (99L * 99 + 99) * stand * stand * 790
            + (82L * 100 + 99) * stand * stand * stand;
        long top = bottom - homes * 999;
        long g = gcd(top, bottom);
        lost(big, 1, 1, top / g, bottom / g);
    }

    private static long gcd(long a, long b) {
        return b == 0 ? a : gcd(b, a % b);
    }

    private static void best() {
        E.sentence("Terms", "BEST for a LAW: PLATES by which LOST is the least; of several the least bits.");
        MissingHoles x = Edges.taken(ONE_PLATE);
        E.due("best(0), none saves", x.best(0), 0);
        E.due("best, all save alike", x.best(Edges.law(4, 4, 4, 4)), 1);
        E.due("best, b c d alike", x.best(Edges.law(0, 4, 4, 4)), 2);
        E.due("best, c d alike", x.best(Edges.law(2, 2, 4, 4)), 4);
        E.due("best, d alone", x.best(Edges.law(9, 9, 9, 10)), 1);
        E.due("best, d saves one more", x.best(Edges.law(8, 8, 8, 9)), 8);
        E.due("best, FALLS 1 become 0", x.best(Edges.law(0, 0, 0, 1)), 8);
        E.due("best of the last", x.best(14640), 1);
        MissingHoles two = Edges.taken(ONE_PLATE.replace("limit 5", "limit 10"));
        E.due("best, two of four alike", two.best(Edges.law(4, 4, 4, 4)), 3);
        E.due("best, b and d", two.best(Edges.law(2, 4, 2, 4)), 10);
        E.due("best, a alone is enough", two.best(Edges.law(4, 0, 0, 0)), 1);
        MissingHoles nine = Edges.taken(ONE_PLATE.replace("limit 5", "limit 9"));
        E.due("best, LIMIT 9 is one plate", nine.best(Edges.law(4, 4, 4, 4)), 1);
        MissingHoles four = Edges.taken(ONE_PLATE.replace("limit 5", "limit 4"));
        E.due("best, LIMIT 4 is none", four.best(Edges.law(4, 4, 4, 4)), 0);
        MissingHoles all = Edges.taken(ONE_PLATE.replace("limit 5", "limit 20"));
        E.due("best, all", all.best(Edges.law(1, 1, 1, 1)), 15);
        E.due("best, all that save", all.best(Edges.law(1, 0, 1, 1)), 13);
        MissingHoles weight = Edges.taken("hits 1 0 0 0;");
        E.due("best, weight alone brings hits", weight.best(14640), 0);
        E.due("best, whatever weight brings none falls", weight.best(0), 0);
        MissingHoles nought = Edges.taken("limit 0;plate c 0;");
        E.due("best, what weighs nothing is within LIMIT 0", nought.best(Edges.law(9, 9, 9, 9)), 4);
        E.sentence("promise 24", "BEST for a LAW: PLATES. BAD.");
        MissingHoles none = new MissingHoles();
        none.told(99, 0, 0);
        E.due("best(14640), though it does not fit", none.best(14640), 3);
        for (int law : new int[] {-1, 14641, MIN, MAX}) {
            E.refused(none, "best(" + law + ")", () -> none.best(law), BAD);
        }
    }

    private static void safest() {
        E.sentence("Terms", "SAFEST: PLATES for which LOST by the LAW (of all that FIT) by which it is the greatest is the least; of several the least bits.");
        MissingHoles x = Edges.taken(ONE_PLATE);
        E.due("safest(), all laws, all alike", x.safest(), 1);
        MissingHoles d = Edges.taken(ONE_PLATE + "area d 11;");
        E.due("safest(), all laws, d is larger", d.safest(), 8);
        x.ground(2, 20, 0);
        x.ground(3, 20, 0);
        x.ground(0, 10, 5);
        x.ground(1, 20, 14);
        // a 4 to 6, b 7: plate a leaves 3 and 7, plate b leaves 6 and 3
        E.due("safest(), b", x.safest(), 2);
        x.ground(1, 20, 12);
        E.due("safest(), 3 and 6 or 6 and 3: the least bits", x.safest(), 1);
        x.ground(1, 20, 10);
        E.due("safest(), 3 and 5 or 6 and 2: as many", x.safest(), 1);
        x.ground(1, 20, 16);
        E.due("safest(), 3 and 8 or 6 and 4", x.safest(), 2);
        for (int law : new int[] {0, 1, 11, 121, 1331, 14640, Edges.law(3, 7, 7, 2), Edges.law(0, 1, 2, 3)}) {
            MissingHoles one = Edges.taken(ONE_PLATE);
            for (int p = 0; p < 4; p++) {
                int falls = law / (p == 0 ? 1331 : p == 1 ? 121 : p == 2 ? 11 : 1) % 11;
                one.ground(p, 20, 2 * falls);
            }
            E.due("laws(0)", one.laws(0), 1);
            E.due("safest() of one law " + law, one.safest(), one.best(law));
        }
        E.sentence("promise 25", "SAFEST: PLATES. NONE: no LAW FITS.");
        MissingHoles none = new MissingHoles();
        none.told(99, 0, 0);
        E.refused(none, "safest()", none::safest, NONE);
        none.undo();
        E.due("safest() behind undo()", none.safest(), 3);
        none.ground(0, 20, 0);
        none.wreck(0, true);
        E.due("safest(), a WRECK and no FALLS", none.safest(), NONE);
        MissingHoles nought = Edges.taken("limit 0;");
        E.due("safest(), LIMIT 0", nought.safest(), 0);
    }

    private static void drawing() {
        E.sentence("Terms", "DRAWING: PART by PART, that with the most holes by AREA first (of several the least), each that still is within LIMIT.");
        for (int limit = 0; limit <= 21; limit++) {
            MissingHoles none = Edges.taken("limit " + limit + ";");
            E.due("drawing() without holes, LIMIT " + limit, none.drawing(), limit < 5 ? 0 : limit < 10 ? 1 : limit < 15 ? 3 : limit < 20 ? 7 : 15);
        }
        MissingHoles tie = Edges.taken("area a 20;area b 10;area c 5;area d 15;limit 5;");
        tie.told(20, 20, 64);
        tie.told(10, 10, 16);
        tie.told(5, 5, 4);
        tie.told(15, 15, 1);
        E.due("drawing(), as many by AREA: the least", tie.drawing(), 1);
        tie.told(1, 1, 1);
        E.due("drawing(), one more in d", tie.drawing(), 8);
        tie.told(1, 1, 4);
        E.due("drawing(), one more in c, the smaller AREA", tie.drawing(), 4);
        tie.undo();
        tie.undo();
        tie.told(1, 1, 16);
        E.due("drawing(), one more in b", tie.drawing(), 2);
        MissingHoles heavy = Edges.taken("plate a 11;plate b 6;plate c 5;plate d 4;limit 10;");
        heavy.told(9, 9, 64);
        heavy.told(8, 8, 16);
        heavy.told(7, 7, 4);
        heavy.told(6, 6, 1);
        E.due("drawing(), a and c are too heavy, d is just LIMIT", heavy.drawing(), 10);
        Edges.told(heavy, "plate a 11;plate b 6;plate c 5;plate d 5;limit 10;");
        E.due("drawing(), b alone", heavy.drawing(), 2);
        Edges.told(heavy, "plate a 10;plate b 6;plate c 5;plate d 0;limit 10;");
        E.due("drawing(), a is just LIMIT, d weighs nothing", heavy.drawing(), 9);
        Edges.told(heavy, "plate a 20;plate b 20;plate c 20;plate d 20;limit 60;");
        E.due("drawing(), three of 20", heavy.drawing(), 7);
        MissingHoles last = Edges.taken("limit 5;");
        last.told(1, 1, 1);
        E.due("drawing(), one hole in d alone", last.drawing(), 8);
        last.undo();
        E.due("drawing(), taken back", last.drawing(), 1);
    }

    private static void wrong() {
        E.sentence("promise 27", "How many more of 1000 SORTIES the DRAWING loses than BEST by a LAW, divided up. BAD.");
        String small = ONE_PLATE + "area a 1;area b 1;area c 1;area d 1;";
        MissingHoles x = Edges.taken(small);
        // BEST d: X 36 of 40; the DRAWING a: X 32: 1000 times (46656 - 32768) by 64000 is just 217
        E.due("wrong, just 217", x.wrong(Edges.law(0, 0, 0, 8)), 217);
        // X 38 and 36: 1000 times (54872 - 46656) by 64000 is 128.375
        E.due("wrong, 128.375 divided up", x.wrong(Edges.law(0, 0, 0, 4)), 129);
        E.due("wrong, the DRAWING is BEST", x.wrong(Edges.law(8, 0, 0, 0)), 0);
        E.due("wrong, others are as good", x.wrong(Edges.law(4, 4, 4, 4)), 0);
        E.due("wrong(0)", x.wrong(0), 0);
        MissingHoles other = Edges.taken(small + "other 999;");
        E.due("wrong, a part of one", other.wrong(Edges.law(0, 0, 0, 1)), 1);
        E.due("wrong, 0.217 divided up", other.wrong(Edges.law(0, 0, 0, 8)), 1);
        E.due("wrong, nothing stays nothing", other.wrong(Edges.law(8, 0, 0, 0)), 0);
        MissingHoles half = Edges.taken(small + "other 500;");
        E.due("wrong, 108.5 divided up", half.wrong(Edges.law(0, 0, 0, 8)), 109);
        MissingHoles weight = Edges.taken("hits 1 0 0 0;plate a 20;plate b 20;plate c 20;plate d 20;limit 60;");
        // the DRAWING plates a, b, c: 60 of 100 are hit once, and X is 150 of 400
        E.due("wrong, plates that only weigh: just 375", weight.wrong(14640), 375);
        E.due("wrong, by holes in d none is another", weight.told(1, 1, 1), 1);
        E.due("wrong, d, a and b as much", weight.wrong(14640), 375);
        for (int law : new int[] {-1, 14641, MIN, MAX}) {
            E.refused(x, "wrong(" + law + ")", () -> x.wrong(law), BAD);
        }
    }

    private static void unlike() {
        E.sentence("promise 28", "the least that FITS (what 0), the least whose BEST is another one (1), the PART in which their FALLS are farthest apart, of several the least (2)");
        MissingHoles x = Edges.taken(ONE_PLATE);
        E.due("unlike(0)", x.unlike(0), 0);
        E.due("unlike(1), FALLS 1 of d", x.unlike(1), 1);
        E.due("unlike(2)", x.unlike(2), 3);
        // one hit each, all FALLS 2 by one more or less, and all of them together too
        MissingHoles y = Edges.taken("hits 0 1 0 0;slip 1;plate a 1;plate b 1;plate c 1;plate d 1;limit 1;");
        for (int p = 0; p < 4; p++) {
            y.told(10, 8, 64 >> 2 * p);
        }
        E.due("laws(1)", y.laws(1), Edges.law(1, 1, 2, 3));
        E.due("unlike(0)", y.unlike(0), Edges.law(1, 1, 2, 3));
        E.due("unlike(1), c falls once more, d once less", y.unlike(1), Edges.law(1, 1, 3, 2));
        E.due("unlike(2), of c and d the least", y.unlike(2), 2);

        E.sentence("promise 28", "BAD; NONE: there are no two.");
        MissingHoles none = new MissingHoles();
        none.told(99, 0, 0);
        MissingHoles one = Edges.taken(ONE_PLATE);
        for (int p = 0; p < 4; p++) {
            one.ground(p, 20, 20);
        }
        MissingHoles alike = Edges.taken("limit 4;");
        for (int what = 0; what < 3; what++) {
            int w = what;
            E.refused(none, "unlike(" + what + "), none fits", () -> none.unlike(w), NONE);
            E.refused(one, "unlike(" + what + "), one fits", () -> one.unlike(w), NONE);
            E.refused(alike, "unlike(" + what + "), no plates at all", () -> alike.unlike(w), NONE);
        }
        for (int what : new int[] {-1, 3, 4, MIN, MAX}) {
            E.refused(x, "unlike(" + what + ")", () -> x.unlike(what), BAD);
            E.refused(none, "unlike(" + what + "), none fits", () -> none.unlike(what), BAD);
            E.refused(alike, "unlike(" + what + "), all alike", () -> alike.unlike(what), BAD);
        }
        // two laws fit: by one a plate on a saves as much as one on d, by the other less
        MissingHoles two = Edges.taken(ONE_PLATE);
        two.ground(0, 20, 10);
        two.ground(1, 20, 0);
        two.ground(2, 20, 0);
        two.ground(3, 20, 13);
        E.due("laws(0), d falls by 6 or 7", two.laws(0), 2);
        E.due("best of the first, a and d alike", two.best(Edges.law(5, 0, 0, 6)), 1);
        E.due("best of the last, d", two.best(Edges.law(5, 0, 0, 7)), 8);
        E.due("unlike(0), of two", two.unlike(0), Edges.law(5, 0, 0, 6));
        E.due("unlike(1), of two", two.unlike(1), Edges.law(5, 0, 0, 7));
        E.due("unlike(2), of two", two.unlike(2), 3);
        farthest();
    }

    private static void farthest() {
        E.sentence("promise 28", "the PART in which their FALLS are farthest apart");
        // one PART falls by 6 or 7, another by 7 or 6: which of their plates is BEST hangs on the first; a third falls by 10, too heavy for a plate
        for (int p = 0; p < 4; p++) {
            for (int q = 0; q < 4; q++) {
                for (int r = 0; r < 4; r++) {
                    if (p != q && q != r && r != p) {
                        farthest(p, q, r);
                    }
                }
            }
        }
    }

    private static void farthest(int p, int q, int r) {
        MissingHoles x = Edges.taken("hits 0 0 0 1;plate " + (char) ('a' + r) + " 6;limit 5;slip 99;");
        int still = p < q ? 7 : 6;
        for (int any = 0; any < 4; any++) {
            x.ground(any, 20, any == p ? 13 : any == q ? 2 * still : any == r ? 20 : 0);
        }
        E.due("laws(0)", x.laws(0), 2);
        E.due("best of the first", x.best(x.laws(1)), 1 << q);
        E.due("best of the last", x.best(x.laws(2)), 1 << p);
        E.due("unlike(0)", x.unlike(0), x.laws(1));
        E.due("unlike(1)", x.unlike(1), x.laws(2));
        E.due("unlike(2)", x.unlike(2), p);
    }

    private static void trialBounds() {
        E.sentence("promise 29", "k shots (1 to 20) .. BAD: also f above k; NONE: none FITS.");
        MissingHoles x = new MissingHoles();
        MissingHoles none = new MissingHoles();
        none.told(99, 0, 0);
        for (int p : new int[] {-1, 4, MIN, MAX}) {
            E.refused(x, "trial(" + p + ", 5, 0)", () -> x.trial(p, 5, 0), BAD);
            E.refused(none, "trial(" + p + ", 5, 0), none fits", () -> none.trial(p, 5, 0), BAD);
        }
        for (int k : new int[] {0, -1, 21, 22, MIN, MAX}) {
            for (int what : new int[] {0, 21, 22}) {
                E.refused(x, "trial(0, " + k + ", " + what + ")", () -> x.trial(0, k, what), BAD);
                E.refused(none, "trial(0, " + k + ", " + what + "), none fits", () -> none.trial(0, k, what), BAD);
            }
        }
        for (int k = 1; k <= 20; k++) {
            int shots = k;
            for (int what = -1; what <= 23; what++) {
                int w = what;
                boolean bad = what < 0 || what > 22 || what <= 20 && what > k;
                E.due("trial(3, " + k + ", " + what + ")", x.trial(3, shots, w) >= 0 ? 1 : x.trial(3, shots, w), bad ? BAD : 1);
                E.due("trial(3, " + k + ", " + what + "), none fits", none.trial(3, shots, w), bad ? BAD : NONE);
            }
        }
        for (int what : new int[] {MIN, MAX}) {
            E.refused(x, "trial(0, 20, " + what + ")", () -> x.trial(0, 20, what), BAD);
        }
    }

    private static void trialCounts() {
        E.sentence("promise 29", "how many of the LAWS that FIT now would FIT still (what 0 to 20: f is that), the most over all f (21), for how many f some would (22)");
        MissingHoles x = new MissingHoles();
        for (int p = 0; p < 4; p++) {
            counts(x, p, 1, new int[] {11, 11}, 11, 2);
            counts(x, p, 2, new int[] {6, 11, 6}, 11, 3);
            counts(x, p, 5, new int[] {3, 5, 5, 5, 5, 3}, 5, 6);
            counts(x, p, 20, new int[] {1, 2, 1, 2, 1, 2, 1, 2, 1, 2, 1, 2, 1, 2, 1, 2, 1, 2, 1, 2, 1}, 2, 21);
        }
        x.ground(1, 20, 6);
        x.ground(2, 20, 6);
        x.ground(3, 20, 6);
        x.ground(0, 10, 9);
        // a falls by 8, 9 or 10
        int[] ten = {0, 0, 0, 0, 0, 0, 0, 1, 2, 3, 2};
        for (int f = 0; f <= 10; f++) {
            E.due("trial(0, 10, " + f + ")", x.trial(0, 10, f), ten[f]);
        }
        E.due("trial(0, 10, 21)", x.trial(0, 10, 21), 3);
        E.due("trial(0, 10, 22)", x.trial(0, 10, 22), 4);
        E.due("trial(1, 20, 6)", x.trial(1, 20, 6), 3);
        E.due("trial(1, 20, 8)", x.trial(1, 20, 8), 0);
        E.due("trial(1, 20, 22)", x.trial(1, 20, 22), 3);
        E.refused(x, "a trial in thought changes nothing", () -> x.trial(1, 20, 20), 0);
    }

    private static void counts(MissingHoles x, int p, int k, int[] falls, int most, int some) {
        for (int f = 0; f <= k; f++) {
            E.due("trial(" + p + ", " + k + ", " + f + ")", x.trial(p, k, f), 1331 * falls[f]);
        }
        E.due("trial(" + p + ", " + k + ", 21)", x.trial(p, k, 21), 1331 * most);
        E.due("trial(" + p + ", " + k + ", 22)", x.trial(p, k, 22), some);
    }
}
