import java.nio.charset.StandardCharsets;
import java.util.ArrayList;
import java.util.List;
import java.util.function.LongSupplier;

/** What the tests of edges share: the sentence that is tested, the answers that are due, and all that can be seen. */
final class Edges {
    static final int BAD = -1, FULL = -3, NONE = -4;
    static final int MIN = Integer.MIN_VALUE, MAX = Integer.MAX_VALUE;
    /** Far from every bound, on both sides. */
    static final int[] FAR = {MIN, MIN + 1, -1000, 1000000, MAX - 1, MAX};

    private String sentence = "";
    private int sentences = 0;
    private int asked = 0;
    private int wrong = 0;

    /** Names the sentence of the document that the answers behind it hang on. */
    void sentence(String where, String words) {
        sentence = where + ", '" + words + "'";
        sentences++;
    }

    void due(String call, long got, long want) {
        asked++;
        if (got != want) {
            wrong++;
            System.out.println(sentence + ": " + call + " answered " + got + ", due is " + want);
        }
    }

    /** A call that is refused: its answer, and that nothing which can be seen is another one behind it. */
    void refused(MissingHoles x, String call, LongSupplier asks, long want) {
        List<Long> ahead = seen(x);
        due(call, asks.getAsLong(), want);
        same(call + " changes nothing", seen(x), ahead);
    }

    void same(String call, List<Long> got, List<Long> want) {
        for (int i = 0; i < want.size(); i++) {
            due(call + " (" + i + ")", got.get(i), want.get(i));
        }
    }

    void finish() {
        System.out.println(sentences + " sentences, " + asked + " answers, " + wrong + " not as due");
        if (wrong != 0) {
            System.exit(1);
        }
    }

    static List<Long> seen(MissingHoles x) {
        List<Long> all = new ArrayList<>();
        for (int p = 0; p < 4; p++) {
            for (int what = 0; what < 3; what++) {
                all.add((long) x.part(p, what));
            }
            all.add((long) x.span(p, 0));
            all.add((long) x.span(p, 1));
        }
        for (int what = 0; what < 10; what++) {
            all.add((long) x.known(what));
            all.add((long) (what < 7 ? x.rule(what) : 0));
            all.add((long) (what < 9 ? x.count(what) : 0));
            all.add((long) (what < 3 ? x.laws(what) : 0));
        }
        for (long v : new long[] {x.fault(), x.torn(), x.cost(), x.drawing(), x.safest(), x.unlike(1), x.near(2928)}) {
            all.add(v);
        }
        return all;
    }

    static byte[] bytesOf(String text) {
        return text.getBytes(StandardCharsets.ISO_8859_1);
    }

    static void feed(MissingHoles x, String text) {
        byte[] bytes = bytesOf(text);
        int had = x.count(6);
        for (int i = 0; i < bytes.length; i += 8) {
            long v = 0;
            for (int j = i; j < i + 8; j++) {
                v = v << 8 | (j < bytes.length ? bytes[j] & 255 : 32);
            }
            x.feed(v);
        }
        x.end(had + bytes.length);
    }

    static int told(MissingHoles x, String text) {
        feed(x, text);
        return x.text();
    }

    static MissingHoles taken(String text) {
        MissingHoles x = new MissingHoles();
        int lines = told(x, text);
        if (lines < 0) {
            throw new IllegalStateException("the test's own text is at fault: " + text + " " + lines);
        }
        return x;
    }

    static int law(int a, int b, int c, int d) {
        return ((a * 11 + b) * 11 + c) * 11 + d;
    }

    /** The law by which one PART has these FALLS and all others have others. */
    static int lawOf(int part, int falls, int others) {
        int law = 0;
        for (int p = 0; p < 4; p++) {
            law = law * 11 + (p == part ? falls : others);
        }
        return law;
    }

    static String blanks(int n) {
        return " ".repeat(n);
    }
}
