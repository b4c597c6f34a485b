import java.util.List;

/** The edges of THE TAPE, of texts and of what they tell: promises 1 to 7. */
public final class TextEdgesTest {
    private static final Edges E = new Edges();
    private static final int BAD = Edges.BAD, FULL = Edges.FULL, NONE = Edges.NONE, MIN = Edges.MIN, MAX = Edges.MAX;
    private static final String ALL = "area a 20;area b 19;area c 1;area d 2;falls a 10;falls b 9;falls c 0;falls d 1;"
        + "plate a 20;plate b 0;plate c 19;plate d 1;hits 99 0 98 1;other 999;slip 99;limit 60;";

    public static void main(String[] args) {
        newObject();
        feedOrder();
        feedFull();
        endBounds();
        textEmptiesTheTape();
        faultyTextTellsNothing();
        latestFault();
        longestTexts();
        everyByte();
        tokensAsLongAsMayBe();
        numberFigures();
        names();
        partLetters();
        endsOfTexts();
        tokensThatCanNotStand();
        boundsOfParts();
        boundsOfRules();
        hitsNotAllNought();
        toldAlready();
        firstMet();
        notTold();
        partBounds();
        ruleBounds();
        E.finish();
    }

    private static void taken(String text, int lines) {
        MissingHoles x = new MissingHoles();
        E.due("text() of '" + text + "'", Edges.told(x, text), lines);
        E.due("fault() of '" + text + "'", x.fault(), 0);
        E.due("count(6) behind '" + text + "'", x.count(6), 0);
    }

    private static void faulty(String text, int place, int fault) {
        MissingHoles x = new MissingHoles();
        E.due("text() of '" + text + "'", Edges.told(x, text), -10 - place);
        E.due("fault() of '" + text + "'", x.fault(), fault);
        E.due("count(6) behind '" + text + "'", x.count(6), 0);
    }

    private static void newObject() {
        E.sentence("promise 1", "As told at first; no SORTIES, WRECKS, GROUND; SHEETS have nothing.");
        MissingHoles x = new MissingHoles();
        int[] rules = {1, 1, 1, 1, 0, 5, 10};
        for (int what = 0; what < 7; what++) {
            E.due("rule(" + what + ")", x.rule(what), rules[what]);
        }
        for (int p = 0; p < 4; p++) {
            E.due("part(" + p + ", 0)", x.part(p, 0), 10);
            E.due("part(" + p + ", 1)", x.part(p, 1), 2);
            E.due("part(" + p + ", 2)", x.part(p, 2), 5);
            E.due("wreck(" + p + ")", x.wreck(p, false), 0);
            E.due("ground(" + p + ")", x.ground(p, 0, 0), 0);
            E.due("lay of SHEET " + p, x.lay(p, 0, 0), -11);
        }
        for (int what = 0; what <= 9; what++) {
            E.due("known(" + what + ")", x.known(what), 0);
        }
        for (int what = 0; what <= 8; what++) {
            E.due("count(" + what + ")", x.count(what), what == 7 ? NONE : 0);
        }
        E.due("text() of an empty tape", x.text(), 0);
        E.due("fault()", new MissingHoles().fault(), 0);
        E.due("torn()", new MissingHoles().torn(), 0);
        E.due("undo()", new MissingHoles().undo(), NONE);
        E.due("seed()", new MissingHoles().seed(1), 0);
        E.due("laws(0)", new MissingHoles().laws(0), 14641);
    }

    private static void feedOrder() {
        E.sentence("promise 2", "Eight bytes come behind THE TAPE, the highest first: how many it has.");
        MissingHoles x = new MissingHoles();
        E.due("feed of 'limit 60'", x.feed(0x6c696d6974203630L), 8);
        E.due("feed of ';       '", x.feed(0x3b20202020202020L), 16);
        E.due("text()", x.text(), 1);
        E.due("rule(6)", x.rule(6), 60);
        // the highest byte may have its top bit set; it is no letter's
        long[] tops = {Long.MIN_VALUE, -1L, 0xe161616161616161L, 0xff00000000000000L, 0L, Long.MAX_VALUE};
        for (long v : tops) {
            E.due("feed", x.feed(v), 8);
            E.due("text() of a byte that is no token", x.text(), -10);
            E.due("fault()", x.fault(), 1);
        }
        for (int place = 0; place < 8; place++) {
            long v = 0x2020202020202020L ^ (0x20L ^ 0x3fL) << (56 - 8 * place);
            x.feed(v);
            E.due("text() with '?' as byte " + place, x.text(), -10 - place);
        }
    }

    private static void feedFull() {
        E.sentence("promise 2", "FULL: more than 200.");
        MissingHoles x = new MissingHoles();
        for (int i = 1; i <= 25; i++) {
            E.due("feed " + i, x.feed(0x2020202020202020L), 8 * i);
        }
        E.refused(x, "feed behind 200", () -> x.feed(0x3f3f3f3f3f3f3f3fL), FULL);
        for (int kept = 199; kept >= 193; kept--) {
            x.end(kept);
            E.refused(x, "feed behind " + kept, () -> x.feed(0x3f3f3f3f3f3f3f3fL), FULL);
        }
        E.due("text(): what was refused is not there", x.text(), 0);
        for (int i = 1; i <= 24; i++) {
            x.feed(0x2020202020202020L);
        }
        E.due("feed behind 192", x.feed(0x2020202020202020L), 200);
    }

    private static void endBounds() {
        E.sentence("promise 3", "THE TAPE keeps its first n bytes: how many it had.");
        MissingHoles x = new MissingHoles();
        E.due("end(0) of an empty tape", x.end(0), 0);
        x.feed(0x736c69702034323bL);
        E.due("end(8), all are kept", x.end(8), 8);
        E.due("end(6)", x.end(6), 8);
        E.due("end(6) again", x.end(6), 6);
        E.due("feed behind it", x.feed(0x3b20202020202020L), 14);
        E.due("text() of 'slip 4;'", x.text(), 1);
        E.due("rule(5)", x.rule(5), 4);
        x.feed(0x736c69702034323bL);
        E.due("end(0)", x.end(0), 8);
        E.due("text() of nothing", x.text(), 0);

        E.sentence("promise 3", "BAD.");
        MissingHoles y = new MissingHoles();
        E.refused(y, "end(1) of an empty tape", () -> y.end(1), BAD);
        E.refused(y, "end(-1) of an empty tape", () -> y.end(-1), BAD);
        y.feed(0x736c69702034323bL);
        E.refused(y, "end(9)", () -> y.end(9), BAD);
        E.refused(y, "end(-1)", () -> y.end(-1), BAD);
        E.refused(y, "end(200)", () -> y.end(200), BAD);
        E.refused(y, "end(201)", () -> y.end(201), BAD);
        for (int n : Edges.FAR) {
            E.refused(y, "end(" + n + ")", () -> y.end(n), BAD);
        }
        y.end(5);
        E.refused(y, "end(6) behind end(5)", () -> y.end(6), BAD);
        y.feed(0x34323b2020202020L);
        E.due("text() of 'slip 42;'", y.text(), 1);
        E.due("rule(5)", y.rule(5), 42);
    }

    private static void textEmptiesTheTape() {
        E.sentence("promise 4", "THE TAPE (empty then) tells all: how many lines");
        MissingHoles x = new MissingHoles();
        E.due("text() of nothing", x.text(), 0);
        E.due("text() of all", Edges.told(x, ALL), 16);
        E.due("count(6)", x.count(6), 0);
        E.due("text() of a tape that is empty then", x.text(), 0);
        E.due("rule(5) is not told", x.rule(5), 5);
        E.due("text() with a FAULT", Edges.told(x, "slip 7;?"), -17);
        E.due("count(6)", x.count(6), 0);
        E.due("feed begins at the first place", x.feed(0x736c69702034323bL), 8);
        E.due("text()", x.text(), 1);
    }

    private static void faultyTextTellsNothing() {
        E.sentence("promise 4", "-10 less the place of its FAULT: that which was told stays.");
        String[] faulty = {"area a 3;area b 3;area c 3;area d 3;?", "falls a 3;falls b 3;falls c 3;falls d 3;?",
            "plate a 3;plate b 3;plate c 3;plate d 3;?", "hits 3 3 3 3;?", "other 3;slip 3;limit 3;?", "hits 3 3 3", "slip 3",
            "area a 3;area a 4;"};
        int[] places = {36, 40, 40, 13, 23, 10, 6, 14};
        for (int i = 0; i < faulty.length; i++) {
            MissingHoles x = Edges.taken(ALL);
            List<Long> ahead = Edges.seen(x);
            E.due("text() of '" + faulty[i] + "'", Edges.told(x, faulty[i]), -10 - places[i]);
            E.due("fault()", x.fault() > 0 ? 1 : 0, 1);
            x.text();
            Edges.told(x, ALL);
            E.same("all behind '" + faulty[i] + "' and the text again", Edges.seen(x), ahead);
            MissingHoles y = Edges.taken(ALL);
            int told = 0;
            Edges.told(y, faulty[i]);
            for (int p = 0; p < 4; p++) {
                for (int what = 0; what < 3; what++) {
                    told += y.part(p, what) == x.part(p, what) ? 1 : 0;
                }
            }
            for (int what = 0; what < 7; what++) {
                told += y.rule(what) == x.rule(what) ? 1 : 0;
            }
            E.due("what stays of '" + faulty[i] + "'", told, 19);
            E.due("LOST stays", y.lost(14640, 2, 0), x.lost(14640, 2, 0));
            E.due("SHARE stays", y.share(14639, 2, 0), x.share(14639, 2, 0));
            E.due("LIMIT of PLATES stays", y.lost(0, 15, 0), x.lost(0, 15, 0));
        }
    }

    private static void latestFault() {
        E.sentence("promise 5", "The FAULT of the latest text(); 0.");
        MissingHoles x = new MissingHoles();
        E.due("fault() ahead of all texts", x.fault(), 0);
        String[] faulty = {"?", "wing", "slip 100;", "slip 1;slip 1;"};
        for (int i = 0; i < 4; i++) {
            Edges.told(x, faulty[i]);
            E.due("fault()", x.fault(), i + 1);
            Edges.feed(x, "slip 5;");
            x.end(99);
            E.due("fault() stays until the next text()", x.fault(), i + 1);
            x.text();
            E.due("fault() of a text that was taken", x.fault(), 0);
        }
        Edges.told(x, "?");
        x.text();
        E.due("fault() of an empty text", x.fault(), 0);
    }

    private static void longestTexts() {
        E.sentence("Terms", "THE TAPE has 200 bytes, places from 0.");
        taken(Edges.blanks(200), 0);
        taken(Edges.blanks(193) + "slip 7;", 1);
        taken("slip" + Edges.blanks(194) + "7;", 1);
        taken("slip 7;" + Edges.blanks(193), 1);
        faulty(Edges.blanks(199) + "?", 199, 1);
        faulty("?" + Edges.blanks(199), 0, 1);
        faulty(Edges.blanks(199) + ";", 199, 2);
        faulty(Edges.blanks(199) + "a", 199, 2);
        faulty(Edges.blanks(199) + "7", 199, 2);
        faulty(Edges.blanks(196) + "slip", 200, 2);
        faulty("slip" + Edges.blanks(196), 200, 2);
        faulty(Edges.blanks(194) + "slip 7", 200, 2);
        faulty(Edges.blanks(192) + "slip 100", 197, 3);
        faulty("slip 1;" + Edges.blanks(189) + "slip", 196, 4);
        faulty("slip 1;" + Edges.blanks(188) + "slips", 195, 2);
        faulty("a".repeat(200), 0, 2);
        faulty("1".repeat(200), 0, 1);
        faulty(";".repeat(200), 0, 2);
        MissingHoles x = new MissingHoles();
        E.due("text() of " + ALL.length() + " bytes", Edges.told(x, ALL + Edges.blanks(200 - ALL.length())), 16);
        E.due("text() of the same, tight behind blanks", Edges.told(x, Edges.blanks(200 - ALL.length()) + ALL), 16);
    }

    private static void everyByte() {
        E.sentence("Terms", "TOKENS, blanks (32) between: NAMES (a .. z), NUMBERS, one ; .");
        for (int v = 0; v < 256; v++) {
            String sign = String.valueOf((char) v);
            boolean letter = v >= 97 && v <= 122;
            boolean figure = v >= 48 && v <= 57;
            if (v == 32) {
                taken(sign, 0);
                taken("slip 5" + sign + ";", 1);
                taken("slip" + sign + "5;", 1);
            } else if (letter || figure || v == 59) {
                faulty(sign, 0, 2);
                faulty("slip 5" + (figure ? "  " : "") + sign + "?", v == 59 ? 7 : figure ? 8 : 6, v == 59 ? 1 : 2);
            } else {
                faulty(sign, 0, 1);
                faulty("slip 5" + sign + ";", 6, 1);
                faulty("slip" + sign + "5;", 4, 1);
                faulty("slip 5;" + sign, 7, 1);
            }
        }
    }

    private static void tokensAsLongAsMayBe() {
        E.sentence("Terms", "TOKENS, each as long as may be");
        taken("slip5;", 1);
        taken("slip5;limit6;area a7;hits 1 2 3 4;", 4);
        taken("area  a  7  ;  ", 1);
        faulty("areaa 5;", 0, 2);
        faulty("area ab 5;", 5, 2);
        faulty("areaa5;", 0, 2);
        faulty("area a 5b;", 8, 2);
        faulty("hits 1111;", 5, 1);
        faulty("hits 11 11;", 10, 2);
        faulty("sl ip 5;", 0, 2);
        faulty("slip 5 0;", 7, 2);
        faulty("slip 9 9;", 7, 2);
        MissingHoles x = Edges.taken("slip 56;");
        E.due("rule(5)", x.rule(5), 56);
    }

    private static void numberFigures() {
        E.sentence("Terms", "NUMBERS (1 to 3 figures)");
        MissingHoles x = new MissingHoles();
        String[] numbers = {"7", "07", "007", "0", "00", "000", "99", "099"};
        int[] values = {7, 7, 7, 0, 0, 0, 99, 99};
        for (int i = 0; i < numbers.length; i++) {
            E.due("text() of slip " + numbers[i], Edges.told(x, "slip " + numbers[i] + ";"), 1);
            E.due("rule(5)", x.rule(5), values[i]);
        }
        E.sentence("Terms", "1 no TOKEN, a NUMBER that is too long (its first byte)");
        faulty("slip 0007;", 5, 1);
        faulty("slip 0000;", 5, 1);
        faulty("slip  1000;", 6, 1);
        faulty("slip 12345678901234567890;", 5, 1);
        faulty("other 1000;", 6, 1);
        faulty("1000", 0, 1);
        faulty("area 1000 5;", 5, 1);
        faulty("area a 0005;", 7, 1);
        faulty("hits 1 1 1 0001;", 11, 1);
        faulty("slip 5 0001;", 7, 1);
        faulty("slip 5;0001;", 7, 1);
        faulty("slip 0001", 5, 1);
    }

    private static void names() {
        E.sentence("Terms", "2 a TOKEN that can not stand there (a NAME that begins no line ..)");
        String[] names = {"area", "falls", "plate", "hits", "other", "slip", "limit"};
        for (String name : names) {
            for (int cut = 1; cut < name.length(); cut++) {
                faulty(name.substring(0, cut) + " 5;", 0, 2);
                faulty(name.substring(cut) + " 5;", 0, 2);
            }
            faulty(name + "s 5;", 0, 2);
            faulty(name + name + " 5;", 0, 2);
            faulty("z" + name + " 5;", 0, 2);
            faulty("slip 5;" + name.substring(1) + "?", 7, 2);
            faulty(name.toUpperCase() + " 5;", 0, 1);
            for (int i = 0; i < name.length(); i++) {
                faulty(name.substring(0, i) + "z" + name.substring(i + 1) + " 5;", 0, 2);
                faulty(name.substring(0, i) + "z" + name.substring(i + 1) + " a 5;", 0, 2);
            }
        }
        faulty("a", 0, 2);
        faulty("d 5;", 0, 2);
    }

    private static void partLetters() {
        E.sentence("Terms", "PART: a NAME of one letter, a to d.");
        for (char c = 'a'; c <= 'z'; c++) {
            for (String name : new String[] {"area ", "falls ", "plate "}) {
                if (c <= 'd') {
                    taken(name + c + " 7;", 1);
                    faulty(name + c + "a 7;", name.length(), 2);
                    faulty(name + "a" + c + " 7;", name.length(), 2);
                } else {
                    faulty(name + c + " 7;", name.length(), 2);
                }
            }
        }
        for (int p = 0; p < 4; p++) {
            char c = (char) ('a' + p);
            MissingHoles x = Edges.taken("area " + c + " 17;falls " + c + " 7;plate " + c + " 18;");
            for (int q = 0; q < 4; q++) {
                E.due("AREA of " + q, x.part(q, 0), p == q ? 17 : 10);
                E.due("FALLS of " + q, x.part(q, 1), p == q ? 7 : 2);
                E.due("WEIGHT of " + q, x.part(q, 2), p == q ? 18 : 5);
            }
        }
    }

    private static void endsOfTexts() {
        E.sentence("Terms", "2 .. or the end: the length");
        String[] cut = {"area", "area a", "area a 5", "falls", "falls b", "falls b 5", "plate", "plate c", "plate c 5", "hits",
            "hits 1", "hits 1 1", "hits 1 1 1", "hits 1 1 1 1", "other", "other 5", "slip", "slip 5", "limit", "limit 5"};
        for (String text : cut) {
            faulty(text, text.length(), 2);
            faulty(text + " ", text.length() + 1, 2);
            faulty("   " + text, text.length() + 3, 2);
            faulty("area d 1;" + text, text.length() + 9, 2);
        }
    }

    private static void tokensThatCanNotStand() {
        E.sentence("Terms", "2 a TOKEN that can not stand there (.. no PART ..)");
        faulty(";", 0, 2);
        faulty("5;", 0, 2);
        faulty("slip 5;;", 7, 2);
        faulty("slip 5; 5;", 8, 2);
        for (String name : new String[] {"area ", "falls ", "plate "}) {
            int at = name.length();
            faulty(name + "5;", at, 2);
            faulty(name + ";", at, 2);
            faulty(name + "area 5;", at, 2);
            faulty(name + "a;", at + 1, 2);
            faulty(name + "a b;", at + 2, 2);
            faulty(name + "a 5 5;", at + 4, 2);
            faulty(name + "a 5 b;", at + 4, 2);
        }
        for (String name : new String[] {"other ", "slip ", "limit "}) {
            int at = name.length();
            faulty(name + ";", at, 2);
            faulty(name + "a;", at, 2);
            faulty(name + "a 5;", at, 2);
            faulty(name + "5 5;", at + 2, 2);
            faulty(name + "5 slip;", at + 2, 2);
        }
        String hits = "hits ";
        for (int n = 0; n < 4; n++) {
            faulty(hits + ";", hits.length(), 2);
            faulty(hits + "a", hits.length(), 2);
            hits += "1 ";
        }
        faulty(hits + "1;", hits.length(), 2);
        faulty(hits + "a;", hits.length(), 2);
    }

    private static void boundsOfParts() {
        E.sentence("Terms", "AREA (1 to 20), FALLS (0 to 10), a WEIGHT of its plate (0 to 20); 3 a NUMBER out of its bounds");
        String[] names = {"area", "falls", "plate"};
        int[] least = {1, 0, 0};
        int[] most = {20, 10, 20};
        for (int what = 0; what < 3; what++) {
            for (int p = 0; p < 4; p++) {
                String head = names[what] + " " + (char) ('a' + p) + " ";
                for (int v : new int[] {0, 1, 9, 10, 11, 19, 20, 21, 99, 100, 256, 266, 999}) {
                    if (v >= least[what] && v <= most[what]) {
                        MissingHoles x = Edges.taken(head + v + ";");
                        E.due(head + v, x.part(p, what), v);
                    } else {
                        faulty(head + v + ";", head.length(), 3);
                    }
                }
            }
        }
        faulty("area a 00;", 7, 3);
        faulty("area a 000;", 7, 3);
        taken("area a 001;", 1);
    }

    private static void boundsOfRules() {
        E.sentence("Terms", "HITS (0 to 99 each), OTHER (0 to 999), SLIP (0 to 99), LIMIT (0 to 60); 3 a NUMBER out of its bounds");
        String[] names = {"other ", "slip ", "limit "};
        int[] most = {999, 99, 60};
        int[] rules = {4, 5, 6};
        for (int i = 0; i < 3; i++) {
            for (int v : new int[] {0, 1, 59, 60, 61, 98, 99, 100, 101, 255, 256, 998, 999}) {
                if (v <= most[i]) {
                    MissingHoles x = Edges.taken(names[i] + v + ";");
                    E.due(names[i] + v, x.rule(rules[i]), v);
                } else {
                    faulty(names[i] + v + ";", names[i].length(), 3);
                }
            }
        }
        for (int n = 0; n < 4; n++) {
            String head = "hits " + "7 ".repeat(n);
            String tail = " 7".repeat(3 - n) + ";";
            for (int v : new int[] {0, 1, 98, 99}) {
                MissingHoles x = Edges.taken(head + v + tail);
                for (int m = 0; m < 4; m++) {
                    E.due("HITS " + m + " of " + head + v + tail, x.rule(m), m == n ? v : 7);
                }
            }
            faulty(head + "100" + tail, head.length(), 3);
            faulty(head + "999" + tail, head.length(), 3);
        }
    }

    private static void hitsNotAllNought() {
        E.sentence("Terms", "HITS: .. not all 0; 3 .. the last one of hits, if all are 0");
        faulty("hits 0 0 0 0;", 11, 3);
        faulty("hits 0 0 0 000;", 11, 3);
        faulty("hits 00 000 0 0;", 14, 3);
        faulty("hits 0 0 0  0 ;", 12, 3);
        faulty("slip 1;hits 0 0 0 0;", 18, 3);
        faulty("hits 0 0 0 0", 11, 3);
        faulty("hits 0 0 0;", 10, 2);
        for (int n = 0; n < 4; n++) {
            taken("hits " + "0 ".repeat(n) + "1" + " 0".repeat(3 - n) + ";", 1);
        }
    }

    private static void toldAlready() {
        E.sentence("Terms", "4 what is told already (its NAME; area, falls, plate: the PART)");
        for (String line : new String[] {"hits 1 1 1 1;", "other 5;", "slip 5;", "limit 5;"}) {
            faulty(line + line, line.length(), 4);
            faulty(line + " area a 5; " + line, line.length() + 11, 4);
        }
        for (String name : new String[] {"area ", "falls ", "plate "}) {
            for (char c = 'a'; c <= 'd'; c++) {
                String line = name + c + " 5;";
                faulty(line + line, line.length() + name.length(), 4);
                String others = "";
                for (char o = 'a'; o <= 'd'; o++) {
                    others += o == c ? "" : name + o + " 5;";
                }
                taken(line + others, 4);
                faulty(line + others + line, 4 * line.length() + name.length(), 4);
            }
        }
        taken("area a 5;falls a 5;plate a 5;", 3);
        MissingHoles x = Edges.taken("slip 7;area a 7;");
        E.due("a new text may tell again", Edges.told(x, "slip 8;area a 8;"), 2);
        Edges.told(x, "slip 9;area a 9;?");
        E.due("and again behind a FAULT", Edges.told(x, "slip 3;area a 3;"), 2);
    }

    private static void firstMet() {
        E.sentence("Terms", "FAULTS, the first met as it is read (a TOKEN is read when the one before has been taken)");
        faulty("slip 100?", 5, 3);
        faulty("slip 100", 5, 3);
        faulty("slip 100 5;", 5, 3);
        faulty("hits 0 0 0 0?", 11, 3);
        faulty("hits 100?", 5, 3);
        faulty("hits 1 1 1 100?", 11, 3);
        faulty("wing?", 0, 2);
        faulty("area e?", 5, 2);
        faulty("area 5?", 5, 2);
        faulty("area a 21?", 7, 3);
        faulty("area a ;?", 7, 2);
        faulty("slip 5;slip?", 7, 4);
        faulty("slip 5;slip 100;", 7, 4);
        faulty("slip 5;slip", 7, 4);
        faulty("area a 5;area a?", 14, 4);
        faulty("area a 5;area a 0;", 14, 4);
        faulty("area a 5;area a", 14, 4);
        faulty("area a 5;area?", 13, 1);
        faulty("area a 5;area e", 14, 2);
        faulty("slip 5?slip 5;", 6, 1);
        faulty("slip?", 4, 1);
        faulty("area?", 4, 1);
        faulty("hits?", 4, 1);
        faulty("area a?", 6, 1);
        faulty("hits 1?", 6, 1);
        faulty("hits 1 1 1 1?", 12, 1);
        faulty("slip 5;?", 7, 1);
    }

    private static void notTold() {
        E.sentence("Terms", "What is not told: AREA 10, FALLS 2, WEIGHT 5, HITS 1 1 1 1, OTHER 0, SLIP 5, LIMIT 10. A text that is taken tells all.");
        for (String next : new String[] {"", " ", "slip 5;", "area a 10;", "hits 1 1 1 1;"}) {
            MissingHoles x = Edges.taken(ALL);
            Edges.told(x, next);
            int[] rules = {1, 1, 1, 1, 0, 5, 10};
            for (int what = 0; what < 7; what++) {
                E.due("rule(" + what + ") behind '" + next + "'", x.rule(what), rules[what]);
            }
            for (int p = 0; p < 4; p++) {
                E.due("AREA", x.part(p, 0), 10);
                E.due("FALLS", x.part(p, 1), 2);
                E.due("WEIGHT", x.part(p, 2), 5);
            }
        }
        MissingHoles x = Edges.taken(ALL);
        int[] told = {20, 19, 1, 2, 10, 9, 0, 1, 20, 0, 19, 1};
        for (int i = 0; i < 12; i++) {
            E.due("part(" + i % 4 + ", " + i / 4 + ")", x.part(i % 4, i / 4), told[i]);
        }
        int[] rules = {99, 0, 98, 1, 999, 99, 60};
        for (int what = 0; what < 7; what++) {
            E.due("rule(" + what + ")", x.rule(what), rules[what]);
        }
    }

    private static void partBounds() {
        E.sentence("promise 6", "Of a PART: 0 AREA, 1 FALLS, 2 WEIGHT of its plate. BAD.");
        MissingHoles x = Edges.taken(ALL);
        for (int bad : new int[] {-1, 4, 5, 12, MIN, MAX}) {
            for (int what = 0; what < 3; what++) {
                int w = what;
                E.refused(x, "part(" + bad + ", " + w + ")", () -> x.part(bad, w), BAD);
            }
        }
        for (int bad : new int[] {-1, 3, 4, MIN, MAX}) {
            for (int p = 0; p < 4; p++) {
                int q = p;
                E.refused(x, "part(" + q + ", " + bad + ")", () -> x.part(q, bad), BAD);
            }
        }
    }

    private static void ruleBounds() {
        E.sentence("promise 7", "What holds: 0 to 3 HITS, 4 OTHER, 5 SLIP, 6 LIMIT. BAD.");
        MissingHoles x = Edges.taken(ALL);
        for (int bad : new int[] {-1, 7, 8, MIN, MAX}) {
            E.refused(x, "rule(" + bad + ")", () -> x.rule(bad), BAD);
        }
        E.due("rule(0)", x.rule(0), 99);
        E.due("rule(6)", x.rule(6), 60);
    }
}
