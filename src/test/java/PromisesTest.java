import java.nio.charset.StandardCharsets;

/** Each promise of the document: ordinary inputs, edges, wrong inputs. */
public final class PromisesTest {
    private static final int BAD = MissingHoles.BAD, FULL = MissingHoles.FULL, NONE = MissingHoles.NONE;
    private static final int MIN = Integer.MIN_VALUE, MAX = Integer.MAX_VALUE;
    private static int wrong = 0;
    private static int asked = 0;

    private static void due(int promise, String call, long got, long want) {
        asked++;
        if (got != want) {
            wrong++;
            System.out.println("promise " + promise + ": " + call + " answered " + got + ", due is " + want);
        }
    }

    private static void feed(MissingHoles x, String text) {
        byte[] bytes = text.getBytes(StandardCharsets.ISO_8859_1);
        for (int i = 0; i < bytes.length; i += 8) {
            long v = 0;
            for (int j = i; j < i + 8; j++) {
                v = v << 8 | (j < bytes.length ? bytes[j] & 255 : 0);
            }
            x.feed(v);
        }
        x.end(bytes.length);
    }

    private static MissingHoles taken(String text) {
        MissingHoles x = new MissingHoles();
        feed(x, text);
        if (x.text() < 0) {
            due(4, "text() of " + text, x.fault(), 0);
        }
        return x;
    }

    private static void faulty(String text, int place, int fault) {
        MissingHoles x = taken("area a 7; slip 9;");
        feed(x, text);
        due(4, "text() of '" + text + "'", x.text(), -10 - place);
        due(5, "fault() of '" + text + "'", x.fault(), fault);
        due(4, "part(0, 0) behind '" + text + "'", x.part(0, 0), 7);
        due(4, "rule(5) behind '" + text + "'", x.rule(5), 9);
        due(4, "count(6) behind '" + text + "'", x.count(6), 0);
    }

    private static int law(int a, int b, int c, int d) {
        return ((a * 11 + b) * 11 + c) * 11 + d;
    }

    public static void main(String[] args) {
        atFirst();
        tape();
        texts();
        partsAndRules();
        told();
        draws();
        evidence();
        undo();
        sharesAndHoles();
        fitting();
        spansAndSays();
        cost();
        near();
        lostAndBest();
        safestAndDrawing();
        wrongAndUnlike();
        trial();
        sheets();
        reads();
        counts();
        System.out.println(asked + " answers of 34 promises, " + wrong + " not as due");
        if (wrong != 0) {
            System.exit(1);
        }
    }

    private static void atFirst() {
        MissingHoles x = new MissingHoles();
        int[] parts = {10, 2, 5};
        int[] rules = {1, 1, 1, 1, 0, 5, 10};
        for (int p = 0; p < 4; p++) {
            for (int what = 0; what < 3; what++) {
                due(1, "part", x.part(p, what), parts[what]);
            }
        }
        for (int what = 0; what < 7; what++) {
            due(1, "rule " + what, x.rule(what), rules[what]);
            due(1, "count " + what, x.count(what), 0);
        }
        for (int what = 0; what < 10; what++) {
            due(1, "known " + what, x.known(what), 0);
        }
        due(1, "count(7)", x.count(7), NONE);
        due(1, "fault()", x.fault(), 0);
        due(1, "torn()", x.torn(), 0);
        due(1, "undo()", x.undo(), NONE);
        for (int k = 0; k < 4; k++) {
            due(1, "lay", x.lay(k, 0, 0), -11);
        }
    }

    private static void tape() {
        MissingHoles x = new MissingHoles();
        for (int i = 1; i <= 25; i++) {
            due(2, "feed", x.feed(-1L), 8 * i);
        }
        due(2, "feed, full", x.feed(0L), FULL);
        due(2, "count(6)", x.count(6), 200);
        due(3, "end(201)", x.end(201), BAD);
        due(3, "end(-1)", x.end(-1), BAD);
        due(3, "end(MIN)", x.end(MIN), BAD);
        due(3, "end(193)", x.end(193), 200);
        due(2, "feed behind 193", x.feed(0L), FULL);
        due(3, "end(194)", x.end(194), BAD);
        due(3, "end(192)", x.end(192), 193);
        due(2, "feed behind 192", x.feed(0L), 200);
        due(3, "end(0)", x.end(0), 200);
        due(3, "end(0)", x.end(0), 0);
        due(3, "end(1)", x.end(1), BAD);
        // "slip 42;" highest byte first
        due(2, "feed", x.feed(0x736c69702034323bL), 8);
        due(4, "text()", x.text(), 1);
        due(4, "rule(5)", x.rule(5), 42);
        due(4, "count(6)", x.count(6), 0);
        // two pieces make one token
        due(2, "feed", x.feed(0x736c697020312020L), 8);
        due(3, "end(6)", x.end(6), 8);
        due(2, "feed", x.feed(0x363b202020202020L), 14);
        due(4, "text()", x.text(), 1);
        due(4, "rule(5)", x.rule(5), 16);
    }

    private static void texts() {
        due(4, "text of nothing", new MissingHoles().text(), 0);
        MissingHoles x = taken("area a 1;falls b 10;plate c 0;hits 0 0 0 99;other 999;slip 0;limit 60;");
        due(4, "area", x.part(0, 0), 1);
        due(4, "falls", x.part(1, 1), 10);
        due(4, "plate", x.part(2, 2), 0);
        due(4, "hits 3", x.rule(3), 99);
        due(4, "other", x.rule(4), 999);
        due(4, "slip", x.rule(5), 0);
        due(4, "limit", x.rule(6), 60);
        feed(x, "   ");
        due(4, "blanks alone", x.text(), 0);
        due(4, "area is untold again", x.part(0, 0), 10);
        due(4, "hits are untold again", x.rule(3), 1);
        due(4, "limit is untold again", x.rule(6), 10);
        feed(x, "  area d 020;falls d 0 ;hits 1 2 3 4  ;  ");
        due(4, "loose and tight", x.text(), 3);
        due(4, "area d", x.part(3, 0), 20);
        feed(x, "hits5 6 7 8;slip9;");
        due(4, "no blank between unlike tokens", x.text(), 2);
        due(4, "hits 0", x.rule(0), 5);

        faulty("slip 5,", 6, 1);
        faulty("slip 5; Slip 6;", 8, 1);
        faulty("slip 1000;", 5, 1);
        faulty("slip 0005;", 5, 1);
        faulty("slip\t5;", 4, 1);
        faulty("\u00e9", 0, 1);
        faulty("slip", 4, 2);
        faulty("slip  ", 6, 2);
        faulty("slip 5", 6, 2);
        faulty("slip 5 5;", 7, 2);
        faulty("slip a;", 5, 2);
        faulty("slip ;", 5, 2);
        faulty(";", 0, 2);
        faulty("slip 5;;", 7, 2);
        faulty("7", 0, 2);
        faulty("slips 5;", 0, 2);
        faulty("sli 5;", 0, 2);
        faulty("area e 5;", 5, 2);
        faulty("area ab 5;", 5, 2);
        faulty("area 5 a;", 5, 2);
        faulty("area a a;", 7, 2);
        faulty("hits 1 2 3;", 10, 2);
        faulty("area a 0;", 7, 3);
        faulty("area a 21;", 7, 3);
        faulty("falls a 11;", 8, 3);
        faulty("plate a 21;", 8, 3);
        faulty("hits 1 100 1 1;", 7, 3);
        faulty("hits 0 0 0 0;", 11, 3);
        faulty("slip 100;", 5, 3);
        faulty("limit 61;", 6, 3);
        faulty("slip 5;slip 5;", 7, 4);
        faulty("hits 1 1 1 1;hits", 13, 4);
        faulty("area a 5;area b 5;area a 5;", 23, 4);
        faulty("falls c 5;falls c", 16, 4);
        faulty("plate d 5;plate d,", 16, 4);
        // what is met first wins, as a token is read only when the one before has been taken
        faulty("slip 100,", 5, 3);
        faulty("hits 0 0 0 0,", 11, 3);
        faulty("wing,", 0, 2);
        faulty("slip 5;slip,", 7, 4);
        faulty("area e,", 5, 2);
        faulty("other 1,5", 7, 1);

        MissingHoles y = taken("slip 1;");
        feed(y, "?");
        due(4, "text() at fault", y.text(), -10);
        due(5, "fault()", y.fault(), 1);
        due(5, "fault() again", y.fault(), 1);
        due(4, "text() of nothing", y.text(), 0);
        due(5, "fault() of the latest", y.fault(), 0);
    }

    private static void partsAndRules() {
        MissingHoles x = taken("area a 3;area b 4;area c 5;area d 6;falls d 9;plate d 20;hits 9 8 7 6;");
        for (int p = 0; p < 4; p++) {
            due(6, "part " + p, x.part(p, 0), 3 + p);
        }
        due(6, "part(3, 1)", x.part(3, 1), 9);
        due(6, "part(3, 2)", x.part(3, 2), 20);
        for (int bad : new int[] {MIN, -1, 4, MAX}) {
            due(6, "part of none", x.part(bad, 0), BAD);
            due(6, "part, no such what", x.part(0, bad == 4 ? 3 : bad), BAD);
            due(7, "rule, no such what", x.rule(bad == 4 ? 7 : bad), BAD);
        }
        for (int n = 0; n < 4; n++) {
            due(7, "rule " + n, x.rule(n), 9 - n);
        }
    }

    private static void told() {
        MissingHoles x = new MissingHoles();
        due(8, "told(1, 0, 0)", x.told(1, 0, 0), 1);
        due(8, "told(99, 99, 192)", x.told(99, 99, 192), 100);
        due(8, "told(10, 4, 27)", x.told(10, 4, 27), BAD);
        due(8, "told(10, 4, 24)", x.told(10, 4, 24), 110);
        due(8, "told(10, 4, 3)", x.told(10, 4, 3), 120);
        int[] want = {120, 0, 0, 0, 107, 297, 4, 8, 12, 13};
        for (int what = 0; what < 10; what++) {
            due(13, "known " + what, x.known(what), want[what]);
        }
        due(13, "known(-1)", x.known(-1), BAD);
        due(13, "known(10)", x.known(10), BAD);
        due(13, "known(MIN)", x.known(MIN), BAD);
        int[][] bad = {{0, 0, 0}, {100, 0, 0}, {MIN, 0, 0}, {MAX, 0, 0}, {5, 6, 0}, {5, -1, 0}, {5, 5, -1}, {5, 5, 256},
            {5, 0, 255}, {5, 5, 85}, {5, 5, 193}, {5, 5, MAX}, {5, MAX, 0}};
        for (int[] b : bad) {
            due(8, "told with a bad number", x.told(b[0], b[1], b[2]), BAD);
        }
        due(8, "known(0)", x.known(0), 120);
        for (int i = 0; i < 8; i++) {
            x.told(99, 0, 0);
        }
        due(8, "known(0)", x.known(0), 912);
        due(8, "told(88)", x.told(88, 0, 0), FULL);
        due(8, "told(88), bad ahead of full", x.told(88, 0, 256), BAD);
        due(8, "told(87)", x.told(87, 0, 0), 999);
        due(8, "told(1)", x.told(1, 0, 0), FULL);
        due(9, "draw(1)", x.draw(1), FULL);
        due(9, "draw(0)", x.draw(0), BAD);
        due(9, "the seed behind a full draw", x.seed(0), 0);
    }

    private static void draws() {
        // rolls from seed 0: 0 0: no hit, home; 988 1 18 7: one hit, PART 1, home; 45 1 2 0: PART 0, it fell;
        // 261 0: no hit, home; 659 2 7 5 8 3: two hits, both PART 0, home; 212 1 16 1: PART 1, it fell
        MissingHoles x = new MissingHoles();
        due(9, "draw(0)", x.draw(0), BAD);
        due(9, "draw(100)", x.draw(100), BAD);
        due(9, "draw(MIN)", x.draw(MIN), BAD);
        due(9, "draw(1)", x.draw(1), 1);
        due(9, "the seed", x.count(5), -740551042);
        due(9, "draw(1)", x.draw(1), 1);
        due(9, "the seed", x.count(5), -1038148470);
        due(9, "draw(1)", x.draw(1), 0);
        due(9, "the seed", x.count(5), 551188310);
        due(9, "draw(3)", x.draw(3), 2);
        due(9, "the seed", x.count(5), -1610630086);
        int[] want = {6, 2, 1, 1, 0, 2, 1, 0, 0, 2};
        for (int what = 0; what < 10; what++) {
            due(9, "known " + what, x.known(what), want[what]);
        }
        due(34, "count(8)", x.count(8), 2);
        due(34, "count(4), one call is one ACT", x.count(4), 4);
        due(14, "undo()", x.undo(), 3);
        due(14, "known(0)", x.known(0), 3);
        due(34, "count(8)", x.count(8), 1);
        due(10, "seed(5)", x.seed(5), -1610630086);
        due(10, "seed(MIN)", x.seed(MIN), 5);
        due(10, "seed(7)", x.seed(7), MIN);
        due(34, "count(5)", x.count(5), 7);

        MissingHoles none = taken("hits 1 0 0 0;");
        due(9, "draw(99) without hits", none.draw(99), 99);
        due(13, "known(1)", none.known(1), 99);
        due(9, "draw(1) more", none.draw(1), 1);
        MissingHoles sure = taken("hits 0 0 0 1;falls a 10;falls b 10;falls c 10;falls d 10;");
        due(9, "draw(99), all fall", sure.draw(99), 0);
        due(34, "count(8)", sure.count(8), 99);
        due(13, "known(9)", sure.known(9), 99);
        due(14, "undo()", sure.undo(), 0);
        due(34, "count(8) behind undo", sure.count(8), 0);
        MissingHoles other = taken("other 999;falls a 0;falls b 0;falls c 0;falls d 0;");
        due(9, "draw(99), other ends", other.draw(99), 0);
        due(34, "count(8), by other ends none", other.count(8), 0);
        MissingHoles safe = taken("hits 0 0 0 1;falls a 0;falls b 0;falls c 0;falls d 0;");
        due(9, "draw(50), none falls", safe.draw(50), 50);
        due(13, "known(4)", safe.known(4), 50);
        due(13, "all holes", safe.known(5) + safe.known(6) + safe.known(7) + safe.known(8), 150);

        // the same seed draws the same; what the seed is behind a draw stays behind undo
        MissingHoles a = new MissingHoles();
        a.seed(99);
        int came = a.draw(60);
        int seed = a.count(5);
        due(14, "undo()", a.undo(), 0);
        due(14, "the seed stays", a.count(5), seed);
        a.seed(99);
        due(9, "draw(60) again", a.draw(60), came);
        due(9, "the seed again", a.count(5), seed);
    }

    private static void evidence() {
        MissingHoles x = new MissingHoles();
        due(11, "wreck(2)", x.wreck(2, true), 0);
        due(11, "wreck(2)", x.wreck(2, true), 1);
        due(34, "count(2)", x.count(2), 1);
        due(17, "fits without falls where a wreck is", x.fits(law(5, 5, 0, 5)), 0);
        due(17, "fits with falls where a wreck is", x.fits(law(0, 0, 1, 0)), 1);
        due(11, "wreck(2)", x.wreck(2, false), 1);
        due(11, "wreck(2)", x.wreck(2, false), 0);
        due(12, "ground(1, 20, 20)", x.ground(1, 20, 20), 0);
        due(12, "ground(1, 7, 3)", x.ground(1, 7, 3), 20);
        due(34, "count(3)", x.count(3), 1);
        // 7 shots, 3 down: 30 is within 10 of 21, 28, 35 only, so FALLS 3 to 5
        for (int falls = 0; falls <= 10; falls++) {
            due(12, "fits by GROUND, falls " + falls, x.fits(law(0, falls, 0, 0)), falls >= 3 && falls <= 5 ? 1 : 0);
        }
        due(12, "ground(1, 9, 2)", x.ground(1, 9, 2), 7);
        due(12, "fits by GROUND, 11 apart", x.fits(law(0, 1, 0, 0)), 0);
        due(12, "fits by GROUND, 10 apart", x.fits(law(0, 2, 0, 0)), 1);
        due(12, "ground(1, 10, 2)", x.ground(1, 10, 2), 9);
        due(12, "fits by GROUND, 10 apart", x.fits(law(0, 1, 0, 0)), 1);
        due(12, "ground(1, 0, 0)", x.ground(1, 0, 0), 10);
        due(12, "ground(1, 0, 0)", x.ground(1, 0, 0), 0);
        due(34, "count(3)", x.count(3), 0);
        int[][] bad = {{-1, 1, 1}, {4, 1, 1}, {0, -1, 0}, {0, 21, 0}, {0, 5, 6}, {0, 5, -1}, {0, 0, 1}, {MAX, 0, 0}, {MIN, 0, 0}};
        for (int[] b : bad) {
            due(12, "ground with a bad number", x.ground(b[0], b[1], b[2]), BAD);
        }
        due(11, "wreck(-1)", x.wreck(-1, true), BAD);
        due(11, "wreck(4)", x.wreck(4, true), BAD);
        due(34, "count(2)", x.count(2), 0);
        due(12, "laws(0)", x.laws(0), 14641);
    }

    private static void undo() {
        MissingHoles x = new MissingHoles();
        for (int i = 1; i <= 10; i++) {
            x.told(i, i, 0);
        }
        due(34, "count(4)", x.count(4), 8);
        due(14, "known(0)", x.known(0), 55);
        for (int i = 10; i > 2; i--) {
            due(14, "undo()", x.undo(), i - 3);
            due(14, "known(0)", x.known(0), i * (i - 1) / 2);
            due(14, "known(1)", x.known(1), i * (i - 1) / 2);
        }
        due(14, "undo()", x.undo(), NONE);
        due(14, "known(0)", x.known(0), 3);
        x.told(5, 5, 64);
        x.told(0, 0, 0);
        x.seed(4);
        x.wreck(0, true);
        x.ground(0, 4, 4);
        due(14, "undo() passes what is no ACT", x.undo(), 0);
        due(14, "known(5)", x.known(5), 0);
        due(14, "count(2)", x.count(2), 1);
        due(14, "count(3)", x.count(3), 1);
        due(14, "undo()", x.undo(), NONE);
    }

    private static void sharesAndHoles() {
        MissingHoles x = taken("area a 1;area b 2;area c 3;area d 4;hits 1 2 3 4;other 500;");
        // all AREAS 10, X of FALLS 5 5 5 5 is 50 of 100
        int half = law(5, 5, 5, 5);
        long[][] want = {{1, 20}, {1, 20}, {3, 80}, {1, 40}};
        for (int n = 0; n < 4; n++) {
            due(15, "share " + n, x.share(half, n, 0), want[n][0]);
            due(15, "share " + n, x.share(half, n, 1), want[n][1]);
        }
        // (2/10 + 2*3/10*1/2 + 3*4/10*1/4) * 1/2 * AREA * 5 / 100 = 4/10 * AREA / 20
        due(16, "holes of 0", x.holes(half, 0, 0), 1);
        due(16, "holes of 0", x.holes(half, 0, 1), 50);
        due(16, "holes of 3", x.holes(half, 3, 0), 2);
        due(16, "holes of 3", x.holes(half, 3, 1), 25);
        due(16, "holes of 3, all fall", x.holes(law(0, 0, 0, 10), 3, 0), 0);
        due(16, "holes of 3, all fall", x.holes(law(0, 0, 0, 10), 3, 1), 1);
        due(15, "share 0 of the last law", x.share(14640, 0, 0), 1);
        due(15, "share 0 of the last law", x.share(14640, 0, 1), 20);
        due(15, "share 2 of the last law", x.share(14640, 2, 0), 0);
        due(15, "share 2 of the last law", x.share(14640, 2, 1), 1);
        int[][] bad = {{-1, 0, 0}, {14641, 0, 0}, {0, -1, 0}, {0, 4, 0}, {0, 0, -1}, {0, 0, 2}, {MIN, 0, 0}, {MAX, 0, 0},
            {0, MAX, 0}, {0, 0, MIN}};
        for (int[] b : bad) {
            due(15, "share with a bad number", x.share(b[0], b[1], b[2]), BAD);
            due(16, "holes with a bad number", x.holes(b[0], b[1], b[2]), BAD);
        }
        // the largest numbers: all fits in a long
        MissingHoles big = taken("area a 20;area b 20;area c 20;area d 19;hits 99 98 97 95;other 1;");
        due(15, "share 3", big.share(law(1, 1, 1, 2), 3, 0), 999L * 95 * 692 * 692 * 692 / gcdOf(999L * 95 * 692 * 692 * 692, 389L * 790 * 790 * 790 * 1000));
        due(15, "share 3", big.share(law(1, 1, 1, 2), 3, 1), 389L * 790 * 790 * 790 * 1000 / gcdOf(999L * 95 * 692 * 692 * 692, 389L * 790 * 790 * 790 * 1000));
    }

    private static long gcdOf(long a, long b) {
        return b == 0 ? a : gcdOf(b, a % b);
    }

    private static void fitting() {
        MissingHoles x = taken("hits 0 1 0 0;slip 5;");
        // one hit each: homes are SORTIES times X by 400, each PART a fourth of SORTIES times 10 less FALLS by 10
        for (int p = 0; p < 4; p++) {
            x.told(10, 8, 64 >> 2 * p);
        }
        due(17, "fits(2 2 2 2)", x.fits(law(2, 2, 2, 2)), 1);
        due(17, "fits(0 0 4 4), two off", x.fits(law(0, 0, 4, 4)), 1);
        due(17, "fits(7 2 2 2), just five off", x.fits(law(7, 2, 2, 2)), 1);
        due(17, "fits(8 2 2 2), six off", x.fits(law(8, 2, 2, 2)), 0);
        due(17, "fits(7 3 2 2), homes six off", x.fits(law(7, 3, 2, 2)), 0);
        due(17, "fits(7 1 2 2)", x.fits(law(7, 1, 2, 2)), 1);
        due(17, "fits(-1)", x.fits(-1), BAD);
        due(17, "fits(14641)", x.fits(14641), BAD);
        due(17, "fits(MIN)", x.fits(MIN), BAD);
        int count = 0, least = -1, most = -1;
        for (int law = 0; law <= 14640; law++) {
            if (x.fits(law) == 1) {
                count++;
                least = least < 0 ? law : least;
                most = law;
            }
        }
        due(18, "laws(0)", x.laws(0), count);
        due(18, "laws(1)", x.laws(1), least);
        due(18, "laws(2)", x.laws(2), most);
        due(18, "laws(-1)", x.laws(-1), BAD);
        due(18, "laws(3)", x.laws(3), BAD);
        x.told(99, 99, 0);
        due(18, "laws(0), none", x.laws(0), 0);
        due(18, "laws(1), none", x.laws(1), NONE);
        due(18, "laws(2), none", x.laws(2), NONE);
        due(18, "laws(3), none", x.laws(3), BAD);
        x.undo();
        due(18, "laws(0) behind undo", x.laws(0), count);
        x.wreck(0, true);
        due(18, "laws(0) with a wreck", x.laws(0) < count ? 1 : 0, 1);
        x.wreck(0, false);
        feed(x, "hits 0 1 0 0;slip 0;");
        x.text();
        MissingHoles large = taken("area a 20;area b 20;area c 20;area d 20;slip 99;");
        due(18, "laws(0) of the largest AREAS", large.laws(0), 14641);
        large.told(4, 4, 0);
        due(18, "laws(1) of the largest AREAS", large.laws(1), 0);
        due(18, "laws(0) without slip", x.laws(0), 1);
        due(18, "laws(1) without slip", x.laws(1), 2928);
    }

    private static void spansAndSays() {
        MissingHoles x = new MissingHoles();
        x.ground(0, 10, 9);
        x.ground(1, 20, 6);
        x.wreck(2, true);
        int[][] want = {{8, 10}, {3, 3}, {1, 10}, {0, 10}};
        for (int p = 0; p < 4; p++) {
            due(19, "span, least of " + p, x.span(p, 0), want[p][0]);
            due(19, "span, most of " + p, x.span(p, 1), want[p][1]);
        }
        due(20, "say(0, 1)", x.say(0, 1), 1);
        due(20, "say(1, 0)", x.say(1, 0), 2);
        due(20, "say(0, 2)", x.say(0, 2), 0);
        due(20, "say(2, 3)", x.say(2, 3), 0);
        x.ground(2, 20, 6);
        due(20, "say(1, 2), as often", x.say(1, 2), 2);
        due(20, "say(2, 1), as often", x.say(2, 1), 2);
        int[][] bad = {{-1, 0}, {4, 0}, {0, -1}, {0, 2}, {MIN, 0}, {0, MAX}};
        for (int[] b : bad) {
            due(19, "span with a bad number", x.span(b[0], b[1]), BAD);
        }
        int[][] none = {{-1, 0}, {4, 0}, {0, -1}, {0, 4}, {2, 2}, {MAX, MIN}};
        for (int[] b : none) {
            due(20, "say with a bad number", x.say(b[0], b[1]), BAD);
        }
        x.ground(3, 20, 0);
        due(19, "span, never falls", x.span(3, 1), 0);
        x.told(99, 0, 0);
        due(19, "span, none fits", x.span(0, 0), NONE);
        due(19, "span, none fits, bad", x.span(4, 0), BAD);
        due(20, "say, none fits", x.say(0, 1), NONE);
        due(20, "say, none fits, bad", x.say(1, 1), BAD);
    }

    private static void cost() {
        MissingHoles x = new MissingHoles();
        due(21, "cost() of nothing", x.cost(), 1);
        x.told(50, 25, 64);
        due(21, "cost(), half", x.cost(), 50);
        x.told(1, 1, 64);
        // 26 * 100 / p <= 51: p 51 at least
        due(21, "cost(), 26 of 51", x.cost(), 51);
        MissingHoles y = new MissingHoles();
        y.told(10, 10, 0);
        y.told(8, 1, 192);
        due(21, "cost(), one of 8 with 3 holes", y.cost(), 50);
        y.undo();
        y.told(4, 1, 80);
        due(21, "cost(), one of 4 with 2 holes", y.cost(), 50);
        y.undo();
        y.told(99, 99, 192);
        due(21, "cost(), none is lost", y.cost(), 100);
    }

    private static void near() {
        MissingHoles x = taken("hits 0 1 0 0;slip 0;");
        for (int p = 0; p < 4; p++) {
            x.told(10, 8, 64 >> 2 * p);
        }
        due(22, "near(2 2 2 2)", x.near(law(2, 2, 2, 2)), 0);
        due(22, "near(3 2 2 2)", x.near(law(3, 2, 2, 2)), 1);
        due(22, "near(0 0 0 0)", x.near(0), 8);
        due(22, "near(10 10 10 10)", x.near(14640), 32);
        x.told(1, 0, 0);
        due(22, "near(2 2 2 2), by a part of one", x.near(law(2, 2, 2, 2)), 1);
        x.wreck(0, true);
        due(22, "near(0 ..) with a wreck", x.near(0), NONE);
        due(22, "near(1 ..) with a wreck", x.near(1331), 8);
        x.ground(0, 10, 10);
        due(22, "near(1 ..) with GROUND", x.near(1331), NONE);
        due(22, "near(-1)", x.near(-1), BAD);
        due(22, "near(14641)", x.near(14641), BAD);
        MissingHoles far = taken("hits 0 1 0 0;");
        far.told(99, 0, 0);
        due(22, "near(0), 99 off", far.near(0), 99);
        far.told(1, 0, 0);
        due(22, "near(0), 100 off", far.near(0), NONE);
    }

    private static void lostAndBest() {
        MissingHoles x = taken("hits 1 0 0 0;plate a 10;plate b 0;plate c 10;plate d 11;limit 20;");
        int all = law(10, 10, 10, 10);
        // weight 10: of 10 in 100 no hit becomes one hit; PART a plated falls by 5 of 10: an eighth of them stays up
        due(23, "lost without plates", x.lost(all, 0, 0), 0);
        due(23, "lost without plates", x.lost(all, 0, 1), 1);
        due(23, "lost by a", x.lost(all, 1, 0), 7);
        due(23, "lost by a", x.lost(all, 1, 1), 80);
        due(23, "lost by a, c: just LIMIT", x.lost(all, 5, 0), 3);
        due(23, "lost by a, c: just LIMIT", x.lost(all, 5, 1), 20);
        due(23, "lost by a, d: more than LIMIT", x.lost(all, 9, 0), BAD);
        due(23, "lost by a, d: more than LIMIT", x.lost(all, 9, 1), BAD);
        int[][] bad = {{-1, 0, 0}, {14641, 0, 0}, {0, -1, 0}, {0, 16, 0}, {0, 0, -1}, {0, 0, 2}, {MIN, 0, 0}, {0, MAX, 0}};
        for (int[] b : bad) {
            due(23, "lost with a bad number", x.lost(b[0], b[1], b[2]), BAD);
        }
        due(24, "best, of several the least", x.best(all), 0);
        MissingHoles y = taken("hits 0 0 0 1;plate a 4;plate b 4;plate c 4;plate d 4;limit 8;area d 20;");
        // with 3 hits no more come: the heavier plates cost nothing
        due(24, "best, the two that save most", y.best(law(8, 2, 2, 4)), 9);
        due(24, "best, odd FALLS are halved down", y.best(law(3, 4, 4, 0)), 3);
        due(24, "best, none saves", y.best(0), 0);
        // FALLS 5 to 2 of AREA 20: X 460 of 500 is 23 of 25
        due(23, "lost by d, FALLS 5 to 2", y.lost(5, 8, 0), 15625 - 23 * 23 * 23);
        due(23, "lost by d, FALLS 5 to 2", y.lost(5, 8, 1), 15625);
        due(24, "best(-1)", y.best(-1), BAD);
        due(24, "best(14641)", y.best(14641), BAD);
        MissingHoles z = taken("hits 0 0 1 0;other 400;plate a 10;limit 10;");
        // HITS 0 0 90 10, FALLS 10 to 5: X 350 of 400 is 7 of 8; 6/10 * (9/10 * 49/64 + 1/10 * 343/512)
        due(23, "lost with other ends", z.lost(law(10, 0, 0, 0), 1, 0), 25600 - 3 * (9 * 49 * 8 + 343));
        due(23, "lost with other ends", z.lost(law(10, 0, 0, 0), 1, 1), 25600);
    }

    private static void safestAndDrawing() {
        MissingHoles x = taken("hits 0 0 0 1;plate a 4;plate b 4;plate c 4;plate d 4;limit 4;slip 99;area c 12;");
        due(25, "safest(), the largest AREA", x.safest(), 4);
        x.ground(2, 10, 0);
        due(25, "safest(), c falls by 1 at most", x.safest(), 1);
        x.ground(0, 20, 4);
        due(25, "safest(), a falls by 2", x.safest(), 2);
        x.told(99, 0, 0);
        x.told(99, 99, 0);
        x.told(99, 99, 0);
        due(25, "safest(), none fits", x.safest(), NONE);
        MissingHoles sole = taken("hits 0 1 0 0;slip 0;plate a 10;plate b 11;plate c 11;plate d 11;limit 10;");
        for (int p = 0; p < 4; p++) {
            sole.told(10, 10, 64 >> 2 * p);
        }
        due(25, "laws(0), one law fits", sole.laws(0), 1);
        due(25, "safest(), no plates", sole.safest(), 0);
        for (int p = 0; p < 4; p++) {
            sole.undo();
        }
        for (int p = 0; p < 4; p++) {
            sole.told(10, p == 0 ? 2 : 10, 64 >> 2 * p);
        }
        due(25, "laws(1), the one law that fits", sole.laws(1), law(8, 0, 0, 0));
        due(25, "safest(), a", sole.safest(), 1);
        MissingHoles y = taken("hits 1 0 0 0;");
        due(25, "safest(), of several the least", y.safest(), 0);

        MissingHoles z = taken("area a 20;area b 1;area c 4;area d 2;plate a 3;plate b 4;plate c 5;plate d 6;limit 10;");
        due(26, "drawing() without holes", z.drawing(), 3);
        z.told(10, 10, 64);
        z.told(10, 2, 4);
        z.told(10, 1, 1);
        // a 10 by 20, c 2 by 4, d 1 by 2: as many; b none: a 3, c 5: d would be 14
        due(26, "drawing(), of several the least", z.drawing(), 5);
        z.told(10, 1, 1);
        due(26, "drawing(), d first, then a", z.drawing(), 9);
        z.told(10, 2, 16);
        due(26, "drawing(), b, d", z.drawing(), 10);
        MissingHoles large = taken("area a 20;area b 10;limit 5;");
        large.told(99, 99, 192);
        large.told(99, 99, 128);
        large.told(99, 99, 32);
        large.told(99, 99, 16);
        // a 495 by 20, b 297 by 10
        due(26, "drawing(), fewer holes in a smaller AREA", large.drawing(), 2);
        MissingHoles light = taken("limit 0;plate b 0;");
        due(26, "drawing(), what weighs nothing", light.drawing(), 2);
    }

    private static void wrongAndUnlike() {
        MissingHoles x = taken("hits 0 0 0 1;plate a 4;plate b 4;plate c 4;plate d 4;limit 4;slip 99;");
        // BEST plates d by FALLS 10 to 5: X 350 of 400; the DRAWING plates a: X 300
        due(27, "wrong(10)", x.wrong(10), (1000 * (343 - 216) + 511) / 512);
        due(27, "wrong(10 0 0 0)", x.wrong(13310), 0);
        due(27, "wrong(0)", x.wrong(0), 0);
        due(27, "wrong(-1)", x.wrong(-1), BAD);
        due(27, "wrong(14641)", x.wrong(14641), BAD);
        due(28, "unlike(0)", x.unlike(0), 0);
        due(28, "unlike(1)", x.unlike(1), 1);
        due(28, "unlike(2)", x.unlike(2), 3);
        x.ground(3, 20, 0);
        due(28, "unlike(1), d never falls", x.unlike(1), 11);
        due(28, "unlike(2), d never falls", x.unlike(2), 2);
        due(28, "unlike(-1)", x.unlike(-1), BAD);
        due(28, "unlike(3)", x.unlike(3), BAD);
        x.ground(2, 20, 0);
        x.ground(1, 20, 0);
        x.wreck(0, true);
        // a alone falls: BEST is a for all, FALLS of 1 are halved to 0
        due(28, "unlike(0), all alike", x.unlike(0), NONE);
        due(28, "unlike(1), all alike", x.unlike(1), NONE);
        due(28, "unlike(2), all alike", x.unlike(2), NONE);
        due(28, "unlike(3), all alike", x.unlike(3), BAD);
        x.told(99, 0, 0);
        x.told(99, 99, 0);
        x.told(99, 99, 0);
        due(28, "unlike(0), none fits", x.unlike(0), NONE);
        due(28, "unlike(3), none fits", x.unlike(3), BAD);
    }

    private static void trial() {
        MissingHoles x = new MissingHoles();
        // 20 shots, 7 down: 70 is within 10 of 60 and 80 alone
        due(29, "trial(0, 20, 7)", x.trial(0, 20, 7), 2 * 1331);
        due(29, "trial(0, 20, 20)", x.trial(0, 20, 20), 1331);
        due(29, "trial(0, 1, 0), one shot: FALLS 0 to 10", x.trial(0, 1, 0), 14641);
        due(29, "trial(3, 20, 21)", x.trial(3, 20, 21), 2 * 1331);
        due(29, "trial(3, 20, 22)", x.trial(3, 20, 22), 21);
        x.ground(0, 20, 8);
        due(29, "trial(0, 20, 10)", x.trial(0, 20, 10), 0);
        due(29, "trial(0, 20, 9)", x.trial(0, 20, 9), 1331);
        due(29, "trial(0, 20, 21)", x.trial(0, 20, 21), 1331);
        due(29, "trial(0, 20, 22)", x.trial(0, 20, 22), 3);
        due(29, "what is tried in thought alone changes nothing", x.laws(0), 1331);
        int[][] bad = {{-1, 5, 0}, {4, 5, 0}, {0, 0, 0}, {0, 21, 0}, {0, 5, 6}, {0, 5, -1}, {0, 5, 23}, {MIN, 5, 0}, {0, MAX, 0}};
        for (int[] b : bad) {
            due(29, "trial with a bad number", x.trial(b[0], b[1], b[2]), BAD);
        }
        x.told(99, 0, 0);
        due(29, "trial, none fits", x.trial(0, 5, 0), NONE);
        due(29, "trial, none fits", x.trial(0, 5, 22), NONE);
        due(29, "trial, none fits, bad", x.trial(0, 5, 6), BAD);
    }

    private static void sheets() {
        MissingHoles x = new MissingHoles();
        due(30, "sheet(0, 0, 0)", x.sheet(0, 0, 0), 1);
        due(34, "count(7)", x.count(7), 0);
        due(31, "lay in none", x.lay(0, 0, 1), -12);
        due(30, "sheet(0, 2, 48)", x.sheet(0, 2, 48), 1);
        due(34, "count(7)", x.count(7), 48);
        due(30, "sheet(0, 2, -1)", x.sheet(0, 2, -1), -14);
        due(30, "sheet(0, 2, MIN)", x.sheet(0, 2, MIN), -14);
        due(34, "count(7) stays", x.count(7), 48);
        int[][] bad = {{-1, 0, 1}, {4, 0, 1}, {0, -1, 1}, {0, 3, 1}, {0, 0, 49}, {4, 0, -1}, {0, 3, -1}, {MAX, 0, 0}, {0, 0, MAX}};
        for (int[] b : bad) {
            due(30, "sheet with a bad number", x.sheet(b[0], b[1], b[2]), BAD);
        }
        due(31, "lay(0, 47)", x.lay(0, 47, 1), 1);
        due(31, "lay(0, 48)", x.lay(0, 48, 1), -12);
        due(31, "lay(0, -1)", x.lay(0, -1, 1), -12);
        due(31, "lay(0, MIN)", x.lay(0, MIN, 1), -12);
        due(31, "lay(1, -1), nothing ahead of index", x.lay(1, -1, 1), -11);
        due(31, "lay(-1)", x.lay(-1, 0, 1), BAD);
        due(31, "lay(4)", x.lay(4, 0, 1), BAD);
        // a row's lowest bits: 256 is 0 in BYTES, 65537 is 1 in SHORTS, 128 is below 0 in BYTES
        x.sheet(1, 0, 4);
        x.lay(1, 0, 256 + 2);
        due(32, "read of BYTES", x.read(1, 0, 0, 1), 1);
        due(32, "known(5)", x.known(5), 2);
        x.lay(1, 0, 128);
        due(32, "read of a BYTE below 0", x.read(1, 0, 0, 1), -20);
        x.sheet(1, 1, 4);
        x.lay(1, 3, 65536 + 1);
        due(32, "read of SHORTS, new CELLS are 0", x.read(1, 1, 0, 1), 1);
        due(32, "known(8)", x.known(8), 1);
        x.lay(1, 3, 32768);
        due(32, "read of a SHORT below 0", x.read(1, 1, 0, 1), -20);
        x.sheet(1, 2, 4);
        x.lay(1, 3, 65536 + 1);
        due(32, "read of an INT that is too many", x.read(1, 2, 0, 1), -20);
        x.lay(1, 2, MAX);
        x.lay(1, 3, MAX);
        due(32, "read of INTS whose sum would turn over", x.read(1, 2, 0, 1), -20);
        x.lay(1, 2, 0);
        x.lay(1, 3, 3);
        due(32, "read of INTS", x.read(1, 2, 0, 1), 1);
        due(32, "known(8)", x.known(8), 4);
    }

    private static void reads() {
        MissingHoles x = new MissingHoles();
        int[][] bad = {{-1, 0, 0, 0}, {4, 0, 0, 0}, {0, -1, 0, 0}, {0, 3, 0, 0}, {0, 0, 0, -1}, {0, 0, 0, 13}, {MIN, 0, 0, 0}};
        due(32, "read of nothing", x.read(2, 0, 0, 12), 0);
        due(33, "torn()", x.torn(), 1);
        for (int[] b : bad) {
            due(32, "read with a bad number", x.read(b[0], b[1], b[2], b[3]), BAD);
        }
        due(33, "torn() stays behind a refused read", x.torn(), 1);
        due(34, "count(4), refused reads are no ACTS", x.count(4), 1);
        x.sheet(0, 1, 10);
        x.lay(0, 6, 1);
        x.lay(0, 7, 2);
        due(32, "read of one, from CELL 4 on", x.read(0, 1, 4, 1), 1);
        due(32, "known(7)", x.known(7), 1);
        due(32, "known(8)", x.known(8), 2);
        due(32, "known(4)", x.known(4), 1);
        due(14, "undo()", x.undo(), 1);
        x.lay(0, 6, 0);
        x.lay(0, 7, 0);
        x.lay(0, 0, 1);
        x.lay(0, 5, 2);
        due(32, "read, the third is torn", x.read(0, 1, 0, 12), 2);
        due(33, "torn()", x.torn(), 2);
        due(32, "known(2)", x.known(2), 1);
        due(32, "known(3)", x.known(3), 1);
        due(32, "known(6)", x.known(6), 2);
        due(32, "read(0 homes)", x.read(0, 1, 0, 0), 0);
        due(33, "torn()", x.torn(), 0);
        due(34, "count(4)", x.count(4), 3);
        due(32, "read from the seventh on", x.read(0, 1, 7, 1), 0);
        due(33, "torn()", x.torn(), 2);
        due(32, "read up to the last", x.read(0, 1, 6, 1), 1);
        due(33, "torn()", x.torn(), 0);
        due(32, "read from below 0", x.read(0, 1, -4, 12), 0);
        due(33, "torn()", x.torn(), 2);
        due(32, "read from MAX", x.read(0, 1, MAX, 2), 0);
        due(32, "read from MIN", x.read(0, 1, MIN, 2), 0);
        due(32, "read as of another lane", x.read(0, 2, 99, 2), 0);
        due(33, "torn(), cast ahead of index", x.torn(), 3);
        // a home that is not whole is not looked at; a bad one behind it is never met
        x.lay(0, 8, -1);
        due(32, "read, bad but not whole", x.read(0, 1, 0, 3), 2);
        due(33, "torn()", x.torn(), 2);
        int sorties = x.known(0);
        int acts = x.count(4);
        due(32, "read, HOME 1 is bad", x.read(0, 1, 2, 2), -21);
        due(32, "none came", x.known(0), sorties);
        due(32, "no ACT", x.count(4), acts);
        due(33, "torn() stays", x.torn(), 2);
        due(14, "undo()", x.undo(), acts - 1);
        due(14, "known(0)", x.known(0), sorties - 2);

        MissingHoles y = new MissingHoles();
        for (int i = 0; i < 10; i++) {
            y.told(99, 0, 0);
        }
        y.sheet(0, 0, 48);
        due(32, "read 9 up to 999", y.read(0, 0, 0, 9), 9);
        y.undo();
        due(32, "read 10, full", y.read(0, 0, 0, 10), FULL);
        due(32, "known(0)", y.known(0), 990);
        y.lay(0, 39, 4);
        due(32, "read 10, the tenth is bad ahead of full", y.read(0, 0, 0, 10), -29);
        y.lay(0, 39, 0);
        y.lay(0, 43, 4);
        due(32, "read 11, full ahead of the eleventh", y.read(0, 0, 0, 11), FULL);
        due(32, "read 10, but the tenth is torn", y.read(0, 0, 12, 10), -27);
        y.lay(0, 43, 0);
        due(32, "read 10, but the tenth is torn", y.read(0, 0, 12, 10), 9);
        due(33, "torn()", y.torn(), 2);
        due(32, "read 0, though it is full", y.read(0, 0, 0, 0), 0);
        due(32, "read 1, full", y.read(0, 0, 0, 1), FULL);
        due(32, "read 1 of nothing, though it is full", y.read(1, 0, 0, 1), 0);
        due(33, "torn()", y.torn(), 1);
    }

    private static void counts() {
        MissingHoles x = new MissingHoles();
        x.told(20, 7, 0);
        x.told(20, 6, 3);
        x.wreck(1, true);
        x.wreck(3, true);
        x.ground(2, 1, 0);
        x.seed(-77);
        x.feed(0L);
        x.sheet(0, 1, 5);
        int[] want = {40, 13, 2, 1, 2, -77, 8, 5, 0};
        for (int what = 0; what < want.length; what++) {
            due(34, "count " + what, x.count(what), want[what]);
        }
        due(34, "count(-1)", x.count(-1), BAD);
        due(34, "count(9)", x.count(9), BAD);
        due(34, "count(MIN)", x.count(MIN), BAD);
        due(34, "count(MAX)", x.count(MAX), BAD);
    }
}
