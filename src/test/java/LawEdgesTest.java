/** The edges of LAWS: SHARES, HOLES, what FITS, spans, COST, the least SLIP: promises 15 to 22. */
public final class LawEdgesTest {
    private static final Edges E = new Edges();
    private static final int BAD = Edges.BAD, NONE = Edges.NONE, MIN = Edges.MIN, MAX = Edges.MAX;
    private static final int[] NO_LAWS = {-1, 14641, 14642, -14640, MIN, MAX};
    private static final String ONE_HIT = "hits 0 1 0 0;";

    public static void main(String[] args) {
        lawBounds();
        shareBounds();
        shareEdges();
        holesBounds();
        holesEdges();
        lowestTerms();
        fitsBounds();
        slipOfHomes();
        slipOfHomesAbove();
        slipOfParts();
        slipByAThousandth();
        wreckOfEachPart();
        groundOfEachPart();
        groundBothSides();
        allThatFitsMustFit();
        lawsBounds();
        spanBounds();
        sayBounds();
        costEdges();
        nearEdges();
        E.finish();
    }

    private static void fraction(String call, long top, long bottom, long dueTop, long dueBottom) {
        E.due(call + ", numerator", top, dueTop);
        E.due(call + ", denominator", bottom, dueBottom);
    }

    private static void share(MissingHoles x, int law, int n, long top, long bottom) {
        fraction("share(" + law + ", " + n + ")", x.share(law, n, 0), x.share(law, n, 1), top, bottom);
    }

    private static void holes(MissingHoles x, int law, int p, long top, long bottom) {
        fraction("holes(" + law + ", " + p + ")", x.holes(law, p, 0), x.holes(law, p, 1), top, bottom);
    }

    private static void lawBounds() {
        E.sentence("Terms", "A LAW: FALLS of PARTS 0 to 3 as figures to the base 11 (PART 0 the highest): 0 to 14640");
        MissingHoles x = new MissingHoles();
        for (int law : NO_LAWS) {
            E.refused(x, "share(" + law + ")", () -> x.share(law, 0, 0), BAD);
            E.refused(x, "holes(" + law + ")", () -> x.holes(law, 0, 1), BAD);
            E.refused(x, "fits(" + law + ")", () -> x.fits(law), BAD);
            E.refused(x, "near(" + law + ")", () -> x.near(law), BAD);
            E.refused(x, "lost(" + law + ")", () -> x.lost(law, 0, 0), BAD);
            E.refused(x, "best(" + law + ")", () -> x.best(law), BAD);
            E.refused(x, "wrong(" + law + ")", () -> x.wrong(law), BAD);
        }
        for (int law : new int[] {0, 14640}) {
            E.due("share(" + law + ")", x.share(law, 0, 1), 4);
            E.due("holes(" + law + ")", x.holes(law, 0, 1), law == 0 ? 8 : 1);
            E.due("fits(" + law + ")", x.fits(law), 1);
            E.due("near(" + law + ")", x.near(law), 0);
            E.due("lost(" + law + ")", x.lost(law, 0, 1), law == 0 ? 1 : 4);
            E.due("best(" + law + ")", x.best(law) >= 0 ? 1 : 0, 1);
            E.due("wrong(" + law + ")", x.wrong(law) >= 0 ? 1 : 0, 1);
        }
        // each figure is of its own PART: with FALLS 10 there no hole comes home
        for (int p = 0; p < 4; p++) {
            for (int q = 0; q < 4; q++) {
                E.due("holes of " + q + ", " + p + " falls", x.holes(Edges.lawOf(p, 10, 0), q, 0) == 0 ? 1 : 0, p == q ? 1 : 0);
            }
        }
    }

    private static void shareBounds() {
        E.sentence("promise 15", "SHARE of homes with n holes by a LAW: 0 the numerator, 1 the denominator. BAD.");
        MissingHoles x = new MissingHoles();
        for (int n : new int[] {-1, 4, 5, MIN, MAX}) {
            E.refused(x, "share(0, " + n + ", 0)", () -> x.share(0, n, 0), BAD);
            E.refused(x, "share(0, " + n + ", 1)", () -> x.share(0, n, 1), BAD);
        }
        for (int what : new int[] {-1, 2, 3, MIN, MAX}) {
            E.refused(x, "share(0, 0, " + what + ")", () -> x.share(0, 0, what), BAD);
            E.refused(x, "share(0, 3, " + what + ")", () -> x.share(0, 3, what), BAD);
        }
    }

    private static void shareEdges() {
        E.sentence("Terms", "SHARE: HITS n by all HITS, times X to the n by (10 times all AREAS) to the n, times 1000 less OTHER by 1000");
        MissingHoles sure = new MissingHoles();
        // X 0: none comes home but those without hits
        int[] tops = {1, 0, 0, 0};
        int[] bottoms = {4, 1, 1, 1};
        for (int n = 0; n < 4; n++) {
            share(sure, 14640, n, tops[n], bottoms[n]);
            share(sure, 0, n, 1, 4);
        }
        for (int n = 0; n < 4; n++) {
            MissingHoles only = Edges.taken("hits " + "0 ".repeat(n) + "99" + " 0".repeat(3 - n) + ";");
            for (int m = 0; m < 4; m++) {
                share(only, 0, m, m == n ? 1 : 0, 1);
            }
            // of AREAS 10 each one PART is lost for sure: 3 by 4
            long three = 1;
            long four = 1;
            for (int i = 0; i < n; i++) {
                three *= 3;
                four *= 4;
            }
            share(only, Edges.law(0, 0, 10, 0), n, three, four);
        }
        MissingHoles other = Edges.taken("hits 1 0 0 0;other 999;");
        share(other, 0, 0, 1, 1000);
        MissingHoles small = Edges.taken("hits 0 99 99 1;other 999;area a 20;area b 20;area c 20;area d 1;");
        // X 1 of 610: the smallest that is not 0
        share(small, Edges.law(10, 10, 10, 9), 3, 1, 199L * 610 * 610 * 610 * 1000);
        share(small, Edges.law(10, 10, 10, 9), 0, 0, 1);
    }

    private static void holesBounds() {
        E.sentence("promise 16", "HOLES of a PART by a LAW: 0 the numerator, 1 the denominator. BAD.");
        MissingHoles x = new MissingHoles();
        for (int p : new int[] {-1, 4, 5, MIN, MAX}) {
            E.refused(x, "holes(0, " + p + ", 0)", () -> x.holes(0, p, 0), BAD);
            E.refused(x, "holes(0, " + p + ", 1)", () -> x.holes(0, p, 1), BAD);
        }
        for (int what : new int[] {-1, 2, 3, MIN, MAX}) {
            E.refused(x, "holes(0, 0, " + what + ")", () -> x.holes(0, 0, what), BAD);
            E.refused(x, "holes(0, 3, " + what + ")", () -> x.holes(0, 3, what), BAD);
        }
    }

    private static void holesEdges() {
        E.sentence("Terms", "HOLES of PART p, by a sortie: of n 1 to 3 HITS n by all HITS, times n, .. summed");
        MissingHoles none = Edges.taken("hits 5 0 0 0;");
        MissingHoles one = Edges.taken("hits 0 5 0 0;");
        MissingHoles two = Edges.taken("hits 0 0 5 0;");
        MissingHoles three = Edges.taken("hits 0 0 0 5;");
        for (int p = 0; p < 4; p++) {
            holes(none, 0, p, 0, 1);
            holes(one, 0, p, 1, 4);
            holes(two, 0, p, 1, 2);
            holes(three, 0, p, 3, 4);
            holes(three, 14640, p, 0, 1);
            // this PART is lost for sure
            holes(three, Edges.lawOf(p, 10, 0), p, 0, 1);
            // all others are: X is a fourth
            holes(one, Edges.lawOf(p, 0, 10), p, 1, 4);
            holes(two, Edges.lawOf(p, 0, 10), p, 1, 8);
            holes(three, Edges.lawOf(p, 0, 10), p, 3, 64);
        }
        MissingHoles all = Edges.taken("hits 1 1 1 1;other 500;");
        // a half of (1 by 4 and 2 by 4 and 3 by 4) by 4
        holes(all, 0, 2, 3, 16);
    }

    private static void lowestTerms() {
        E.sentence("Terms", "Fractions are in lowest terms, the denominator above 0 (0 is 0 by 1).");
        MissingHoles x = Edges.taken("area a 20;area b 20;area c 20;area d 20;hits 99 99 99 99;other 998;");
        share(x, 0, 0, 1, 2000);
        share(x, 0, 3, 1, 2000);
        holes(x, 0, 0, 3, 4000);
        fraction("lost(0, 0)", x.lost(0, 0, 0), x.lost(0, 0, 1), 499, 500);
        MissingHoles y = Edges.taken("other 0;hits 0 0 0 7;");
        share(y, 14640, 3, 0, 1);
        share(y, 0, 0, 0, 1);
        holes(y, 14640, 0, 0, 1);
        fraction("lost(0, 0)", y.lost(0, 0, 0), y.lost(0, 0, 1), 0, 1);
        fraction("lost(14640, 0)", y.lost(14640, 0, 0), y.lost(14640, 0, 1), 1, 1);
        share(y, 0, 3, 1, 1);
        // primes that nothing cancels: the largest denominators
        MissingHoles z = Edges.taken("area a 20;area b 20;area c 20;area d 19;hits 99 99 99 82;other 1;");
        // X 790 less 1 (d falls once) is 771: 257 by 3; all HITS 379
        long x3 = 771L * 771 * 771;
        share(z, 1, 3, 82 * x3 * 999 / 2, 379L * 790 * 790 * 790 * 1000 / 2);
    }

    /** Homes with n holes, in equal parts as far as it goes: what each home has, PART by PART. */
    private static void toldEven(MissingHoles x, int sorties, int homes, int[] kinds) {
        int lost = sorties - homes;
        for (int i = 0; i < kinds.length; i++) {
            int share = homes / kinds.length + (i < homes % kinds.length ? 1 : 0);
            if (share > 0) {
                x.told(share, share, kinds[i]);
            }
        }
        if (lost > 0) {
            x.told(lost, 0, 0);
        }
    }

    private static void slip(MissingHoles x, String text, int law, int least) {
        Edges.told(x, text + "slip " + least + ";");
        E.due(text + " fits(" + law + ") with SLIP " + least, x.fits(law), 1);
        if (least > 0) {
            Edges.told(x, text + "slip " + (least - 1) + ";");
            E.due(text + " fits(" + law + ") with SLIP " + (least - 1), x.fits(law), 0);
        }
        if (least < 99) {
            Edges.told(x, text + "slip " + (least + 1) + ";");
            E.due(text + " fits(" + law + ") with SLIP " + (least + 1), x.fits(law), 1);
        }
        E.due(text + " near(" + law + ")", x.near(law), least);
    }

    private static void fitsBounds() {
        E.sentence("promise 17", "Whether a LAW FITS (1, 0). BAD.");
        MissingHoles all = new MissingHoles();
        MissingHoles none = fittedByNone();
        for (int law : new int[] {0, 1, 10, 11, 14639, 14640}) {
            E.due("fits(" + law + "), all fit", all.fits(law), 1);
            E.due("fits(" + law + "), none fits", none.fits(law), 0);
        }
        for (int law : NO_LAWS) {
            E.refused(none, "fits(" + law + "), none fits", () -> none.fits(law), BAD);
        }
    }

    private static void slipOfHomes() {
        E.sentence("Terms", "for each n SORTIES times SHARE are no farther than SLIP from homes with n holes (fewer)");
        MissingHoles none = new MissingHoles();
        toldEven(none, 50, 43, new int[] {0});
        slip(none, "hits 1 0 0 0;", 0, 7);
        slip(none, "hits 1 0 0 0;", 14640, 7);
        // by law 0 all come home; four are lost, so that no PART misses more than 1, 2, 3 holes
        MissingHoles one = new MissingHoles();
        toldEven(one, 40, 36, new int[] {64, 16, 4, 1});
        slip(one, "hits 0 1 0 0;", 0, 4);
        MissingHoles two = new MissingHoles();
        toldEven(two, 40, 36, new int[] {80, 5});
        slip(two, "hits 0 0 1 0;", 0, 4);
        MissingHoles three = new MissingHoles();
        toldEven(three, 40, 36, new int[] {84, 81, 69, 21});
        slip(three, "hits 0 0 0 1;", 0, 4);
    }

    private static void slipOfHomesAbove() {
        E.sentence("Terms", "for each n SORTIES times SHARE are no farther than SLIP from homes with n holes (more)");
        // half come to another end: of 40 with HITS n alone 20 are due
        MissingHoles none = new MissingHoles();
        toldEven(none, 40, 26, new int[] {0});
        slip(none, "hits 1 0 0 0;other 500;", 0, 6);
        MissingHoles one = new MissingHoles();
        toldEven(one, 40, 28, new int[] {64, 16, 4, 1});
        slip(one, "hits 0 1 0 0;other 500;", 0, 8);
        MissingHoles two = new MissingHoles();
        toldEven(two, 40, 26, new int[] {80, 5});
        slip(two, "hits 0 0 1 0;other 500;", 0, 6);
        MissingHoles three = new MissingHoles();
        toldEven(three, 40, 24, new int[] {84, 81, 69, 21});
        slip(three, "hits 0 0 0 1;other 500;", 0, 4);
    }

    private static void slipOfParts() {
        E.sentence("Terms", "for each PART SORTIES times HOLES no farther than SLIP from its holes");
        for (int p = 0; p < 4; p++) {
            // 10 are due in each PART: one has three more, the others one less
            MissingHoles more = new MissingHoles();
            MissingHoles less = new MissingHoles();
            for (int q = 0; q < 4; q++) {
                int n = p == q ? 13 : 9;
                more.told(n, n, 64 >> 2 * q);
                int m = p == q ? 7 : 11;
                less.told(m, m, 64 >> 2 * q);
            }
            slip(more, ONE_HIT, 0, 3);
            slip(less, ONE_HIT, 0, 3);
        }
    }

    private static void slipByAThousandth() {
        E.sentence("Terms", "no farther than SLIP: exactly");
        // of 999 with OTHER 1 are due 998.001
        int[] homes = {999, 998, 997, 996};
        int[] least = {1, 1, 2, 3};
        for (int i = 0; i < homes.length; i++) {
            MissingHoles x = new MissingHoles();
            for (int left = homes[i]; left > 0; left -= 99) {
                x.told(Math.min(left, 99), Math.min(left, 99), 0);
            }
            if (homes[i] < 999) {
                x.told(999 - homes[i], 0, 0);
            }
            slip(x, "hits 1 0 0 0;other 1;", 0, least[i]);
        }
        // of 10 in each PART are due 2.5 of homes by one hit
        MissingHoles x = new MissingHoles();
        x.told(10, 10, 64);
        slip(x, ONE_HIT, 0, 8);
        MissingHoles y = new MissingHoles();
        slip(y, ONE_HIT, 5000, 0);
    }

    private static void wreckOfEachPart() {
        E.sentence("Terms", "a PART with a WRECK has FALLS above 0");
        for (int p = 0; p < 4; p++) {
            MissingHoles x = new MissingHoles();
            x.wreck(p, true);
            for (int q = 0; q < 4; q++) {
                E.due("fits, WRECK in " + p + ", no FALLS in " + q, x.fits(Edges.lawOf(q, 0, 1)), p == q ? 0 : 1);
            }
            E.due("fits, FALLS 1", x.fits(Edges.lawOf(p, 1, 0)), 1);
            E.due("fits, FALLS 10", x.fits(Edges.lawOf(p, 10, 0)), 1);
            E.due("laws(0)", x.laws(0), 13310);
            E.due("near", x.near(Edges.lawOf(p, 0, 5)), NONE);
            x.wreck(p, false);
            E.due("fits, not any more", x.fits(Edges.lawOf(p, 0, 1)), 1);
        }
    }

    private static void groundOfEachPart() {
        E.sentence("Terms", "for GROUND with shots k, f of them: 10 f no farther than 10 from k times FALLS");
        for (int p = 0; p < 4; p++) {
            MissingHoles x = new MissingHoles();
            x.ground(p, 20, 12);
            // 120 within 10 of 20 times FALLS: 6 alone; 110: 5 and 6; 130: 6 and 7
            grounds(x, p, 6, 6);
            x.ground(p, 20, 11);
            grounds(x, p, 5, 6);
            x.ground(p, 20, 13);
            grounds(x, p, 6, 7);
            x.ground(p, 20, 0);
            grounds(x, p, 0, 0);
            x.ground(p, 20, 20);
            grounds(x, p, 10, 10);
            x.ground(p, 20, 1);
            grounds(x, p, 0, 1);
            x.ground(p, 1, 0);
            grounds(x, p, 0, 10);
            x.ground(p, 1, 1);
            grounds(x, p, 0, 10);
            x.ground(p, 2, 0);
            grounds(x, p, 0, 5);
            x.ground(p, 2, 2);
            grounds(x, p, 5, 10);
            x.ground(p, 0, 0);
            grounds(x, p, 0, 10);
        }
    }

    private static void grounds(MissingHoles x, int p, int least, int most) {
        for (int falls = 0; falls <= 10; falls++) {
            E.due("fits, FALLS " + falls + " of " + p, x.fits(Edges.lawOf(p, falls, 3)), falls >= least && falls <= most ? 1 : 0);
        }
        E.due("span(" + p + ", 0)", x.span(p, 0), least);
        E.due("span(" + p + ", 1)", x.span(p, 1), most);
        E.due("laws(0)", x.laws(0), 1331 * (most - least + 1));
    }

    private static void groundBothSides() {
        E.sentence("Terms", "10 f no farther than 10 from k times FALLS (10, 11; above, below)");
        int[][] tried = {{10, 3, 2, 1}, {10, 1, 2, 1}, {9, 2, 1, 0}, {7, 1, 3, 0}, {9, 2, 2, 1}, {7, 1, 2, 1}, {11, 2, 1, 1},
            {11, 3, 2, 1}, {19, 3, 1, 0}, {19, 4, 2, 1}, {19, 9, 5, 1}, {19, 11, 5, 0}, {13, 5, 3, 0}, {13, 4, 3, 1}, {13, 3, 3, 1}};
        for (int[] t : tried) {
            MissingHoles x = new MissingHoles();
            x.ground(1, t[0], t[1]);
            E.due("fits, " + t[1] + " of " + t[0] + ", FALLS " + t[2], x.fits(Edges.law(0, t[2], 0, 0)), t[3]);
        }
    }

    private static void allThatFitsMustFit() {
        E.sentence("Terms", "A LAW FITS HOMES: (all of it)");
        MissingHoles x = Edges.taken(ONE_HIT + "slip 2;");
        for (int p = 0; p < 4; p++) {
            x.told(10, 8, 64 >> 2 * p);
        }
        int law = Edges.law(2, 2, 2, 2);
        E.due("fits", x.fits(law), 1);
        int all = x.laws(0);
        for (int p = 0; p < 4; p++) {
            x.ground(p, 20, 20);
            E.due("fits, GROUND against it", x.fits(law), 0);
            E.due("laws(0), GROUND against all", x.laws(0), 0);
            x.ground(p, 20, 4);
            E.due("fits, GROUND for it", x.fits(law), 1);
            x.ground(p, 0, 0);
            x.wreck(p, true);
            E.due("fits, WRECK for it", x.fits(law), 1);
            x.wreck(p, false);
        }
        E.due("laws(0)", x.laws(0), all);
        int counted = 0;
        for (int any = 0; any <= 14640; any++) {
            counted += x.fits(any);
        }
        E.due("laws(0), one by one", counted, all);
        for (String areas : new String[] {"area a 1;area b 7;area c 13;area d 20;", "area a 20;area b 1;area c 9;area d 4;",
            "area a 3;area b 17;area c 2;area d 11;"}) {
            oneByOne(areas);
        }
    }

    /** AREAS that are all unlike: a PART taken for another one would be seen. */
    private static void oneByOne(String areas) {
        MissingHoles x = Edges.taken(areas + "hits 1 3 2 1;other 50;slip 18;");
        x.draw(99);
        x.draw(99);
        int[] least = {11, 11, 11, 11};
        int[] most = {-1, -1, -1, -1};
        int counted = 0;
        int last = -1;
        for (int law = 0; law <= 14640; law++) {
            if (x.fits(law) == 1) {
                counted++;
                last = law;
                for (int p = 0, rest = law; p < 4; p++, rest /= 11) {
                    least[3 - p] = Math.min(least[3 - p], rest % 11);
                    most[3 - p] = Math.max(most[3 - p], rest % 11);
                }
            }
        }
        E.due("some laws fit, not all", counted > 0 && counted < 14641 ? 1 : 0, 1);
        E.due("laws(0), one by one, " + areas, x.laws(0), counted);
        E.due("laws(2), one by one, " + areas, x.laws(2), last);
        for (int p = 0; p < 4; p++) {
            E.due("span(" + p + ", 0), one by one, " + areas, x.span(p, 0), least[p]);
            E.due("span(" + p + ", 1), one by one, " + areas, x.span(p, 1), most[p]);
        }
    }

    private static MissingHoles fittedByNone() {
        MissingHoles x = new MissingHoles();
        x.told(99, 0, 0);
        return x;
    }

    private static void lawsBounds() {
        E.sentence("promise 18", "How many LAWS FIT (what 0), the least (1; NONE), the greatest (2; NONE). BAD.");
        MissingHoles x = new MissingHoles();
        MissingHoles none = fittedByNone();
        E.due("laws(0), all", x.laws(0), 14641);
        E.due("laws(1), all", x.laws(1), 0);
        E.due("laws(2), all", x.laws(2), 14640);
        E.due("laws(0), none", none.laws(0), 0);
        E.due("laws(1), none", none.laws(1), NONE);
        E.due("laws(2), none", none.laws(2), NONE);
        for (int what : new int[] {-1, 3, 4, MIN, MAX}) {
            E.refused(x, "laws(" + what + ")", () -> x.laws(what), BAD);
            E.refused(none, "laws(" + what + "), none fits", () -> none.laws(what), BAD);
        }
        for (int falls : new int[] {0, 1, 9, 10}) {
            MissingHoles one = new MissingHoles();
            for (int p = 0; p < 4; p++) {
                one.ground(p, 20, 2 * falls);
            }
            int law = Edges.law(falls, falls, falls, falls);
            E.due("laws(0), one", one.laws(0), 1);
            E.due("laws(1), one", one.laws(1), law);
            E.due("laws(2), one", one.laws(2), law);
            for (int p = 0; p < 4; p++) {
                E.due("span(" + p + ", 0), one", one.span(p, 0), falls);
                E.due("span(" + p + ", 1), one", one.span(p, 1), falls);
            }
        }
        E.sentence("promise 18", "LAWS that FIT (as it changes)");
        MissingHoles y = new MissingHoles();
        y.told(99, 0, 0);
        E.due("told", y.laws(0), 0);
        y.undo();
        E.due("undone", y.laws(0), 14641);
        y.ground(0, 20, 0);
        E.due("tried", y.laws(0), 1331);
        y.wreck(0, true);
        E.due("found", y.laws(0), 0);
        y.wreck(0, false);
        E.due("not any more", y.laws(0), 1331);
        y.sheet(0, 0, 48);
        y.read(0, 0, 0, 12);
        E.due("read: twelve homes without holes", y.laws(0), 0);
        y.undo();
        Edges.told(y, "hits 1 0 0 0;slip 0;");
        y.read(0, 0, 0, 12);
        E.due("read, by a text that wants them", y.laws(0), 1331);
        Edges.told(y, "hits 0 1 0 0;slip 0;");
        E.due("a text that does not", y.laws(0), 0);
        Edges.told(y, "hits 1 0 0 0;slip 0;");
        y.draw(99);
        E.due("drawn, as the text wants", y.laws(0), 1331);
        Edges.told(y, "hits 1 0 0 0;slip 0;other 500;");
        y.undo();
        y.undo();
        E.due("taken back", y.laws(0), 1331);
        y.seed(0);
        y.draw(1);
        E.due("drawn: one is home or not, a half is due", y.laws(0), 0);
        y.undo();
        Edges.told(y, "hits 1 0 0 0;slip 0;");
        E.due("taken back", y.laws(0), 1331);
        Edges.told(y, "?");
        E.due("a text with a FAULT", y.laws(0), 1331);
    }

    private static void spanBounds() {
        E.sentence("promise 19", "the least (what 0), the greatest (1). BAD; NONE: none FITS.");
        MissingHoles x = new MissingHoles();
        MissingHoles none = fittedByNone();
        for (int p : new int[] {-1, 4, MIN, MAX}) {
            E.refused(x, "span(" + p + ", 0)", () -> x.span(p, 0), BAD);
            E.refused(none, "span(" + p + ", 1), none fits", () -> none.span(p, 1), BAD);
        }
        for (int what : new int[] {-1, 2, MIN, MAX}) {
            E.refused(x, "span(0, " + what + ")", () -> x.span(0, what), BAD);
            E.refused(none, "span(0, " + what + "), none fits", () -> none.span(0, what), BAD);
        }
        for (int p = 0; p < 4; p++) {
            E.due("span(" + p + ", 0)", x.span(p, 0), 0);
            E.due("span(" + p + ", 1)", x.span(p, 1), 10);
            E.due("span(" + p + ", 0), none fits", none.span(p, 0), NONE);
            E.due("span(" + p + ", 1), none fits", none.span(p, 1), NONE);
        }
    }

    private static void sayBounds() {
        E.sentence("promise 20", "BAD: also one and the same; NONE.");
        MissingHoles x = new MissingHoles();
        MissingHoles none = fittedByNone();
        for (int p = 0; p < 4; p++) {
            int q = p;
            E.refused(x, "say(" + p + ", " + p + ")", () -> x.say(q, q), BAD);
            E.refused(none, "say(" + p + ", " + p + "), none fits", () -> none.say(q, q), BAD);
            for (int bad : new int[] {-1, 4, MIN, MAX}) {
                E.refused(x, "say(" + p + ", " + bad + ")", () -> x.say(q, bad), BAD);
                E.refused(x, "say(" + bad + ", " + p + ")", () -> x.say(bad, q), BAD);
                E.refused(none, "say(" + bad + ", " + p + "), none fits", () -> none.say(bad, q), BAD);
            }
            for (int r = 0; r < 4; r++) {
                if (r != p) {
                    E.due("say(" + p + ", " + r + "), none fits", none.say(p, r), NONE);
                    E.due("say(" + p + ", " + r + "), all fit", x.say(p, r), 0);
                }
            }
        }
        E.sentence("promise 20", "more often than one in PART r (1), never more often (2), else 0");
        for (int p = 0; p < 4; p++) {
            for (int r = 0; r < 4; r++) {
                if (r != p) {
                    says(p, r);
                }
            }
        }
    }

    private static void says(int p, int r) {
        MissingHoles x = new MissingHoles();
        String call = "say(" + p + ", " + r + ")";
        x.ground(p, 10, 9);
        x.ground(r, 10, 6);
        E.due(call + ", 8 to 10 and 5 to 7", x.say(p, r), 1);
        E.due(call + ", turned round", x.say(r, p), 2);
        x.ground(r, 10, 7);
        E.due(call + ", 8 to 10 and 6 to 8", x.say(p, r), 0);
        E.due(call + ", turned round, once as often", x.say(r, p), 2);
        x.ground(r, 10, 8);
        E.due(call + ", 8 to 10 and 7 to 9", x.say(p, r), 0);
        E.due(call + ", turned round, once more often", x.say(r, p), 0);
        x.ground(p, 20, 10);
        x.ground(r, 20, 10);
        E.due(call + ", always as often", x.say(p, r), 2);
        E.due(call + ", always as often", x.say(r, p), 2);
        x.ground(r, 20, 12);
        E.due(call + ", always less often", x.say(p, r), 2);
        E.due(call + ", turned round", x.say(r, p), 1);
    }

    /** Homes with 1, 2, 3 holes, the lost, and those without holes, which must not count. */
    private static void cost(int one, int two, int three, int lost, int due) {
        for (int without = 0; without <= 50; without += 50) {
            MissingHoles x = new MissingHoles();
            int[] homes = {without, one, two, three};
            int[] holes = {0, 16, 20, 84};
            for (int i = 0; i < 4; i++) {
                for (int left = homes[i]; left > 0; left -= 99) {
                    x.told(Math.min(left, 99), Math.min(left, 99), holes[i]);
                }
            }
            for (int left = lost; left > 0; left -= 99) {
                x.told(Math.min(left, 99), 0, 0);
            }
            E.due("cost() of " + one + " " + two + " " + three + ", lost " + lost + ", without " + without, x.cost(), due);
        }
    }

    private static void costEdges() {
        E.sentence("Terms", "COST: .. are no more than SORTIES less homes without holes: the least p for which this is so (p 1 to 100)");
        cost(0, 0, 0, 0, 1);
        cost(0, 0, 0, 9, 1);
        // one home by one hole: 100 by p
        cost(1, 0, 0, 0, 100);
        cost(1, 0, 0, 1, 50);
        cost(1, 0, 0, 2, 34);
        cost(1, 0, 0, 3, 25);
        cost(1, 0, 0, 98, 2);
        cost(1, 0, 0, 99, 1);
        cost(1, 0, 0, 100, 1);
        cost(99, 0, 0, 1, 99);
        // by two holes: 10000 by p times p
        cost(0, 1, 0, 0, 100);
        cost(0, 1, 0, 3, 50);
        cost(0, 1, 0, 2, 58);
        cost(0, 1, 0, 99, 10);
        cost(0, 1, 0, 98, 11);
        // by three: 1000000 by p times p times p
        cost(0, 0, 1, 0, 100);
        cost(0, 0, 1, 7, 50);
        cost(0, 0, 1, 6, 53);
        cost(0, 0, 1, 124, 20);
        cost(0, 0, 1, 123, 21);
        cost(0, 0, 1, 900, 11);
        // all three: 2, 4 and 8 at 50
        cost(1, 1, 1, 11, 50);
        cost(1, 1, 1, 10, 52);
        cost(1, 1, 1, 12, 49);
        cost(300, 300, 300, 0, 100);
        cost(300, 300, 300, 1, 100);
        cost(0, 0, 900, 49, 99);
        E.sentence("promise 21", "COST: p. NONE: no p does.");
        // by p 100 homes are no more than what they are part of, so that there is always one
        cost(949, 0, 0, 0, 100);
        cost(0, 949, 0, 0, 100);
        cost(0, 0, 949, 0, 100);
        cost(0, 0, 0, 949, 1);
    }

    private static void nearEdges() {
        E.sentence("promise 22", "The least SLIP (0 to 99) with which a LAW would FIT (WRECKS and GROUND as they are): BAD; NONE: none does.");
        for (int lost : new int[] {0, 1, 98, 99, 100, 101}) {
            MissingHoles x = Edges.taken("hits 1 0 0 0;slip 3;");
            if (lost > 0) {
                x.told(Math.min(lost, 99), 0, 0);
            }
            if (lost > 99) {
                x.told(lost - 99, 0, 0);
            }
            E.due("near(0), " + lost + " off", x.near(0), lost <= 99 ? lost : NONE);
            E.due("near(14640), " + lost + " off", x.near(14640), lost <= 99 ? lost : NONE);
            E.due("rule(5) stays", x.rule(5), 3);
            x.wreck(2, true);
            E.due("near(0) with a WRECK", x.near(0), NONE);
            E.due("near(14640) with a WRECK", x.near(14640), lost <= 99 ? lost : NONE);
            x.ground(1, 20, 1);
            E.due("near(14640) with GROUND", x.near(14640), NONE);
            E.due("near(11) with both", x.near(11), lost <= 99 ? lost : NONE);
        }
        MissingHoles x = fittedByNone();
        for (int law : NO_LAWS) {
            E.refused(x, "near(" + law + ")", () -> x.near(law), BAD);
        }
    }
}
