import java.math.BigInteger;
import java.util.ArrayDeque;
import java.util.ArrayList;
import java.util.Arrays;
import java.util.List;
import java.util.Random;

/** Random runs of calls, each answer beside that of a slow model written straight from the document. */
public final class OracleTest {
    static final int BAD = -1, FULL = -3, NONE = -4;

    record Frac(BigInteger top, BigInteger bottom) implements Comparable<Frac> {
        static Frac of(long top, long bottom) {
            BigInteger t = BigInteger.valueOf(top), b = BigInteger.valueOf(bottom);
            BigInteger g = t.gcd(b);
            return g.signum() == 0 ? new Frac(t, b) : new Frac(t.divide(g), b.divide(g));
        }
        static Frac low(BigInteger t, BigInteger b) {
            BigInteger g = t.gcd(b);
            return new Frac(t.divide(g), b.divide(g));
        }
        Frac times(Frac o) { return low(top.multiply(o.top), bottom.multiply(o.bottom)); }
        Frac plus(Frac o) { return low(top.multiply(o.bottom).add(o.top.multiply(bottom)), bottom.multiply(o.bottom)); }
        Frac less(Frac o) { return plus(new Frac(o.top.negate(), o.bottom)); }
        Frac power(int n) { return new Frac(top.pow(n), bottom.pow(n)); }
        Frac size() { return new Frac(top.abs(), bottom); }
        public int compareTo(Frac o) { return top.multiply(o.bottom).compareTo(o.top.multiply(bottom)); }
        long side(int what) { return (what == 0 ? top : bottom).longValueExact(); }
    }

    static final class Fault extends RuntimeException {
        static final long serialVersionUID = 1;
        final int kind, place;
        Fault(int kind, int place) { this.kind = kind; this.place = place; }
    }

    /** Tokens are made when they are looked at, as the document's FAULTS want. */
    static final class Text {
        final byte[] b;
        int at = 0, start = 0;
        String token = null;
        int[] area = {10, 10, 10, 10}, falls = {2, 2, 2, 2}, plate = {5, 5, 5, 5}, hits = {1, 1, 1, 1};
        int other = 0, slip = 5, limit = 10, lines = 0;
        final List<String> told = new ArrayList<>();
        Text(byte[] b) { this.b = b; }

        String look() {
            if (token != null) return token;
            while (at < b.length && b[at] == 32) at++;
            start = at;
            if (at == b.length) return token = "";
            String rest = new String(b, at, b.length - at, java.nio.charset.StandardCharsets.ISO_8859_1);
            java.util.regex.Matcher m = java.util.regex.Pattern.compile("^([a-z]+|[0-9]+|;)").matcher(rest);
            if (!m.find()) throw new Fault(1, start);
            token = m.group();
            if (Character.isDigit(token.charAt(0)) && token.length() > 3) throw new Fault(1, start);
            at += token.length();
            return token;
        }
        void taken() { token = null; }
        int number(int low, int high) {
            if (!look().matches("[0-9]+")) throw new Fault(2, start);
            int v = Integer.parseInt(look());
            if (v < low || v > high) throw new Fault(3, start);
            return v;
        }
        void tell(String what) {
            if (told.contains(what)) throw new Fault(4, start);
            told.add(what);
            taken();
        }
        void all() {
            while (!look().isEmpty()) {
                line();
                if (!look().equals(";")) throw new Fault(2, start);
                taken();
                lines++;
            }
        }
        void line() {
            String name = look();
            switch (name) {
                case "area", "falls", "plate" -> {
                    taken();
                    String p = look();
                    if (!p.matches("[a-d]")) throw new Fault(2, start);
                    tell(name + p);
                    int v = name.equals("area") ? number(1, 20) : number(0, name.equals("falls") ? 10 : 20);
                    taken();
                    (name.equals("area") ? area : name.equals("falls") ? falls : plate)[p.charAt(0) - 'a'] = v;
                }
                case "hits" -> {
                    tell(name);
                    for (int n = 0; n < 4; n++) {
                        hits[n] = number(0, 99);
                        if (n == 3 && Arrays.stream(hits).sum() == 0) throw new Fault(3, start);
                        taken();
                    }
                }
                case "other" -> { tell(name); other = number(0, 999); taken(); }
                case "slip" -> { tell(name); slip = number(0, 99); taken(); }
                case "limit" -> { tell(name); limit = number(0, 60); taken(); }
                default -> throw new Fault(2, start);
            }
        }
    }

    record Known(int sorties, int[] homes, int[] holes, int fell) {
        Known copy() { return new Known(sorties, homes.clone(), holes.clone(), fell); }
        int all() { return Arrays.stream(homes).sum(); }
    }

    static final class Model {
        byte[] tape = {};
        Text t = new Text(new byte[0]);
        int fault = 0, seed = 0, torn = 0;
        Known now = new Known(0, new int[4], new int[4], 0);
        /** What was known ahead of each ACT, as a difference that later ACTS do not touch. */
        final ArrayDeque<Known> acts = new ArrayDeque<>();
        boolean[] wreck = new boolean[4];
        int[] shots = new int[4], f = new int[4];
        Object[] sheets = new Object[4];
        List<Integer> fit = null;

        int feed(long v) {
            if (tape.length + 8 > 200) return FULL;
            byte[] more = Arrays.copyOf(tape, tape.length + 8);
            System.arraycopy(java.nio.ByteBuffer.allocate(8).putLong(v).array(), 0, more, tape.length, 8);
            tape = more;
            return tape.length;
        }
        int end(int n) {
            int had = tape.length;
            if (n < 0 || n > had) return BAD;
            tape = Arrays.copyOf(tape, n);
            return had;
        }
        int text() {
            Text read = new Text(tape);
            tape = new byte[0];
            try {
                read.all();
            } catch (Fault e) {
                fault = e.kind;
                return -10 - e.place;
            }
            fault = 0;
            t = read;
            fit = null;
            return t.lines;
        }
        int part(int p, int what) {
            if (p < 0 || p > 3 || what < 0 || what > 2) return BAD;
            return (what == 0 ? t.area : what == 1 ? t.falls : t.plate)[p];
        }
        int rule(int what) {
            if (what < 0 || what > 6) return BAD;
            return new int[] {t.hits[0], t.hits[1], t.hits[2], t.hits[3], t.other, t.slip, t.limit}[what];
        }
        void act(Known next) {
            acts.addLast(now);
            if (acts.size() > 8) acts.removeFirst();
            now = next;
            fit = null;
        }
        static int[] parts4(int holes) { return new int[] {holes / 64, holes / 16 % 4, holes / 4 % 4, holes % 4}; }
        int told(int n, int homes, int holes) {
            if (n < 1 || n > 99 || homes < 0 || homes > n || holes < 0 || holes > 255) return BAD;
            int[] q = parts4(holes);
            int sum = Arrays.stream(q).sum();
            if (sum > 3) return BAD;
            if (now.sorties + n > 999) return FULL;
            Known k = now.copy();
            k.homes[sum] += homes;
            for (int p = 0; p < 4; p++) k.holes[p] += homes * q[p];
            act(new Known(k.sorties + n, k.homes, k.holes, k.fell));
            return now.sorties;
        }
        int roll(int k) {
            seed = (int) (seed * 1103515245L + 12345L);
            return (int) ((seed & 0x7fff0000L) / 65536 % k);
        }
        int pick(int[] w) {
            List<Integer> behind = new ArrayList<>();
            for (int i = 0; i < 4; i++) for (int j = 0; j < w[i]; j++) behind.add(i);
            return behind.get(roll(behind.size()));
        }
        int draw(int n) {
            if (n < 1 || n > 99) return BAD;
            if (now.sorties + n > 999) return FULL;
            Known k = now.copy();
            int came = 0, fell = k.fell;
            next:
            for (int i = 0; i < n; i++) {
                if (roll(1000) < t.other) continue;
                int hits = pick(t.hits);
                int[] q = new int[4];
                for (int h = 0; h < hits; h++) {
                    int p = pick(t.area);
                    if (roll(10) < t.falls[p]) { fell++; continue next; }
                    q[p]++;
                }
                came++;
                k.homes[hits]++;
                for (int p = 0; p < 4; p++) k.holes[p] += q[p];
            }
            act(new Known(k.sorties + n, k.homes, k.holes, fell));
            return came;
        }
        int seed(int v) { int was = seed; seed = v; return was; }
        int wreck(int p, boolean is) {
            if (p < 0 || p > 3) return BAD;
            int was = wreck[p] ? 1 : 0;
            wreck[p] = is;
            fit = null;
            return was;
        }
        int ground(int p, int s, int down) {
            if (p < 0 || p > 3 || s < 0 || s > 20 || down < 0 || down > s) return BAD;
            int was = shots[p];
            shots[p] = s;
            f[p] = down;
            fit = null;
            return was;
        }
        int known(int what) {
            if (what < 0 || what > 9) return BAD;
            if (what == 0) return now.sorties;
            if (what == 9) return now.sorties - now.all();
            return what < 5 ? now.homes[what - 1] : now.holes[what - 5];
        }
        int undo() {
            if (acts.isEmpty()) return NONE;
            now = acts.removeLast();
            fit = null;
            return acts.size();
        }
        static int[] falls(int law) { return new int[] {law / 1331, law / 121 % 11, law / 11 % 11, law % 11}; }
        static boolean noLaw(int law) { return law < 0 || law > 14640; }
        int areas() { return Arrays.stream(t.area).sum(); }
        Frac up() { return Frac.of(1000 - t.other, 1000); }
        int x(int[] fs) { int x = 0; for (int p = 0; p < 4; p++) x += t.area[p] * (10 - fs[p]); return x; }
        Frac shareOf(int[] fs, long[] hits, int n) {
            return Frac.of(hits[n], Arrays.stream(hits).sum()).times(Frac.of(x(fs), 10 * areas()).power(n)).times(up());
        }
        long[] hits() { return Arrays.stream(t.hits).asLongStream().toArray(); }
        Frac holesOf(int[] fs, int p) {
            Frac sum = Frac.of(0, 1);
            for (int n = 1; n <= 3; n++) {
                sum = sum.plus(Frac.of(t.hits[n], Arrays.stream(t.hits).sum()).times(Frac.of(n, 1))
                    .times(Frac.of(t.area[p] * (10 - fs[p]), 10 * areas()))
                    .times(Frac.of(x(fs), 10 * areas()).power(n - 1)).times(up()));
            }
            return sum;
        }
        long share(int law, int n, int what) {
            if (noLaw(law) || n < 0 || n > 3 || what < 0 || what > 1) return BAD;
            return shareOf(falls(law), hits(), n).side(what);
        }
        long holes(int law, int p, int what) {
            if (noLaw(law) || p < 0 || p > 3 || what < 0 || what > 1) return BAD;
            return holesOf(falls(law), p).side(what);
        }
        boolean near(Frac due, int is, int slip) {
            return due.times(Frac.of(now.sorties, 1)).less(Frac.of(is, 1)).size().compareTo(Frac.of(slip, 1)) <= 0;
        }
        boolean fitsBy(int law, int slip) {
            int[] fs = falls(law);
            for (int p = 0; p < 4; p++) {
                if (wreck[p] && fs[p] == 0) return false;
                if (shots[p] > 0 && Math.abs(10 * f[p] - shots[p] * fs[p]) > 10) return false;
            }
            for (int n = 0; n < 4; n++) if (!near(shareOf(fs, hits(), n), now.homes[n], slip)) return false;
            for (int p = 0; p < 4; p++) if (!near(holesOf(fs, p), now.holes[p], slip)) return false;
            return true;
        }
        List<Integer> fit() {
            if (fit == null) {
                fit = new ArrayList<>();
                for (int law = 0; law <= 14640; law++) if (fitsBy(law, t.slip)) fit.add(law);
            }
            return fit;
        }
        int fits(int law) { return noLaw(law) ? BAD : fitsBy(law, t.slip) ? 1 : 0; }
        int laws(int what) {
            if (what < 0 || what > 2) return BAD;
            if (what == 0) return fit().size();
            if (fit().isEmpty()) return NONE;
            return what == 1 ? fit().get(0) : fit().get(fit().size() - 1);
        }
        int span(int p, int what) {
            if (p < 0 || p > 3 || what < 0 || what > 1) return BAD;
            if (fit().isEmpty()) return NONE;
            var s = fit().stream().mapToInt(l -> falls(l)[p]);
            return what == 0 ? s.min().getAsInt() : s.max().getAsInt();
        }
        int say(int p, int r) {
            if (p < 0 || p > 3 || r < 0 || r > 3 || p == r) return BAD;
            if (fit().isEmpty()) return NONE;
            if (fit().stream().allMatch(l -> falls(l)[p] > falls(l)[r])) return 1;
            return fit().stream().allMatch(l -> falls(l)[p] <= falls(l)[r]) ? 2 : 0;
        }
        int cost() {
            for (int p = 1; p <= 100; p++) {
                Frac sum = Frac.of(0, 1);
                for (int n = 1; n <= 3; n++) {
                    sum = sum.plus(Frac.of(now.homes[n], 1).times(Frac.of(100, p).power(n)));
                }
                if (sum.compareTo(Frac.of(now.sorties - now.homes[0], 1)) <= 0) return p;
            }
            return NONE;
        }
        int near(int law) {
            if (noLaw(law)) return BAD;
            for (int slip = 0; slip <= 99; slip++) if (fitsBy(law, slip)) return slip;
            return NONE;
        }
        int weigh(int plates) {
            int s = 0;
            for (int p = 0; p < 4; p++) if ((plates & 1 << p) != 0) s += t.plate[p];
            return s;
        }
        Frac lostBy(int law, int plates) {
            int[] fs = falls(law);
            for (int p = 0; p < 4; p++) if ((plates & 1 << p) != 0) fs[p] /= 2;
            int s = weigh(plates);
            long[] h = new long[4];
            for (int n = 0; n < 4; n++) {
                h[n] = (long) t.hits[n] * (n == 3 ? 100 : 100 - s) + (n == 0 ? 0 : (long) t.hits[n - 1] * s);
            }
            Frac left = Frac.of(1, 1);
            for (int n = 0; n < 4; n++) left = left.less(shareOf(fs, h, n));
            return left;
        }
        long lost(int law, int plates, int what) {
            if (noLaw(law) || plates < 0 || plates > 15 || what < 0 || what > 1 || weigh(plates) > t.limit) return BAD;
            return lostBy(law, plates).side(what);
        }
        int bestOf(int law) {
            int best = -1;
            Frac least = null;
            for (int s = 0; s < 16; s++) {
                if (weigh(s) > t.limit) continue;
                Frac l = lostBy(law, s);
                if (least == null || l.compareTo(least) < 0) { least = l; best = s; }
            }
            return best;
        }
        int best(int law) { return noLaw(law) ? BAD : bestOf(law); }
        int safest() {
            if (fit().isEmpty()) return NONE;
            int best = -1;
            Frac least = null;
            for (int s = 0; s < 16; s++) {
                if (weigh(s) > t.limit) continue;
                Frac worst = Frac.of(-1, 1);
                for (int law : fit()) {
                    Frac l = lostBy(law, s);
                    if (l.compareTo(worst) > 0) worst = l;
                }
                if (least == null || worst.compareTo(least) < 0) { least = worst; best = s; }
            }
            return best;
        }
        int drawing() {
            List<Integer> order = new ArrayList<>(List.of(0, 1, 2, 3));
            order.sort((p, q) -> Frac.of(now.holes[q], t.area[q]).compareTo(Frac.of(now.holes[p], t.area[p])));
            int set = 0;
            for (int p : order) if (weigh(set | 1 << p) <= t.limit) set |= 1 << p;
            return set;
        }
        int wrong(int law) {
            if (noLaw(law)) return BAD;
            Frac more = lostBy(law, drawing()).less(lostBy(law, bestOf(law))).times(Frac.of(1000, 1));
            return more.top.add(more.bottom).subtract(BigInteger.ONE).divide(more.bottom).intValueExact();
        }
        int unlike(int what) {
            if (what < 0 || what > 2) return BAD;
            if (fit().isEmpty()) return NONE;
            int least = fit().get(0), first = bestOf(least);
            for (int law : fit()) {
                if (bestOf(law) == first) continue;
                if (what < 2) return what == 0 ? least : law;
                int part = 0;
                int[] a = falls(least), b = falls(law);
                for (int p = 1; p < 4; p++) if (Math.abs(a[p] - b[p]) > Math.abs(a[part] - b[part])) part = p;
                return part;
            }
            return NONE;
        }
        int left(int p, int k, int down) {
            int[] hadShots = shots.clone(), hadF = f.clone();
            List<Integer> had = fit();
            shots[p] = k;
            f[p] = down;
            int left = 0;
            for (int law : had) if (fitsBy(law, t.slip)) left++;
            shots = hadShots;
            f = hadF;
            return left;
        }
        int trial(int p, int k, int what) {
            if (p < 0 || p > 3 || k < 1 || k > 20 || what < 0 || what > 22 || (what < 21 && what > k)) return BAD;
            if (fit().isEmpty()) return NONE;
            if (what < 21) return left(p, k, what);
            int most = 0, some = 0;
            for (int d = 0; d <= k; d++) {
                int left = left(p, k, d);
                most = Math.max(most, left);
                if (left > 0) some++;
            }
            return what == 21 ? most : some;
        }
        int sheet(int k, int lane, int n) {
            if (k < 0 || k > 3 || lane < 0 || lane > 2 || n > 48) return BAD;
            try {
                sheets[k] = lane == 0 ? new byte[n] : lane == 1 ? new short[n] : new int[n];
            } catch (NegativeArraySizeException e) {
                return -14;
            }
            return 1;
        }
        int lay(int k, int i, int v) {
            if (k < 0 || k > 3) return BAD;
            try {
                if (sheets[k] instanceof byte[] b) b[i] = (byte) v;
                else if (sheets[k] instanceof short[] s) s[i] = (short) v;
                else ((int[]) sheets[k])[i] = v;
            } catch (NullPointerException e) {
                return -11;
            } catch (ArrayIndexOutOfBoundsException e) {
                return -12;
            }
            return 1;
        }
        int cell(Object row, int lane, int i) {
            return lane == 0 ? ((byte[]) row)[i] : lane == 1 ? ((short[]) row)[i] : ((int[]) row)[i];
        }
        int read(int k, int lane, int from, int n) {
            if (k < 0 || k > 3 || lane < 0 || lane > 2 || n < 0 || n > 12) return BAD;
            int came = 0, found = 0, sorties = now.sorties;
            Known next = now.copy();
            try {
                for (int i = 0; i < n; i++) {
                    long[] q = new long[4];
                    for (int p = 0; p < 4; p++) q[p] = cell(sheets[k], lane, from + 4 * i + p);
                    long sum = Arrays.stream(q).sum();
                    if (Arrays.stream(q).min().getAsLong() < 0 || sum > 3) return -20 - i;
                    if (++sorties > 999) return FULL;
                    came++;
                    next.homes[(int) sum]++;
                    for (int p = 0; p < 4; p++) next.holes[p] += (int) q[p];
                }
            } catch (NullPointerException e) {
                found = 1;
            } catch (ArrayIndexOutOfBoundsException e) {
                found = 2;
            } catch (ClassCastException e) {
                found = 3;
            }
            act(new Known(sorties, next.homes, next.holes, next.fell));
            torn = found;
            return came;
        }
        int count(int what) {
            int w = 0, g = 0;
            for (int p = 0; p < 4; p++) { w += wreck[p] ? 1 : 0; g += shots[p] > 0 ? 1 : 0; }
            return switch (what) {
                case 0 -> now.sorties;
                case 1 -> now.all();
                case 2 -> w;
                case 3 -> g;
                case 4 -> acts.size();
                case 5 -> seed;
                case 6 -> tape.length;
                case 7 -> sheets[0] == null ? NONE : java.lang.reflect.Array.getLength(sheets[0]);
                case 8 -> now.fell;
                default -> BAD;
            };
        }
    }

    static int wrong = 0;
    static int asked = 0;
    static final Random dice = new Random(20261118);
    static MissingHoles x;
    static Model m;
    static StringBuilder log;

    static void same(String call, long got, long want) {
        asked++;
        log.append("  ").append(call).append(" -> ").append(got).append('\n');
        if (got != want) {
            wrong++;
            if (wrong <= 5) System.out.println(log + "due is " + want);
        }
    }
    static int any(int low, int high) { return low + dice.nextInt(high - low + 1); }
    /** Mostly within bounds, sometimes just outside, rarely far away. */
    static int about(int low, int high) {
        int r = dice.nextInt(40);
        if (r == 0) return low - 1;
        if (r == 1) return high + 1;
        if (r == 2) return dice.nextBoolean() ? Integer.MIN_VALUE : Integer.MAX_VALUE;
        if (r < 6) return low;
        if (r < 9) return high;
        return any(low, high);
    }

    static String goodText() {
        List<String> lines = new ArrayList<>();
        for (char p = 'a'; p <= 'd'; p++) {
            if (any(0, 2) > 0) lines.add("area " + p + " " + any(1, 20));
            if (any(0, 2) > 0) lines.add("falls " + p + " " + (any(0, 3) == 0 ? 0 : any(0, 10)));
            if (any(0, 2) > 0) lines.add("plate " + p + " " + any(0, any(0, 1) == 0 ? 20 : 6));
        }
        if (any(0, 2) > 0) lines.add("hits " + any(0, 99) + " " + any(0, 9) + " " + any(0, 9) + " " + any(1, 9));
        if (any(0, 1) > 0) lines.add("other " + any(0, any(0, 1) == 0 ? 99 : 999));
        if (any(0, 3) > 0) lines.add("slip " + any(0, 99));
        if (any(0, 3) > 0) lines.add("limit " + any(0, 60));
        java.util.Collections.shuffle(lines, dice);
        StringBuilder b = new StringBuilder();
        for (String l : lines) {
            if (b.length() + l.length() + 2 > 200) break;
            b.append(l).append(";").append(any(0, 2) == 0 ? " " : "");
        }
        return b.toString();
    }
    static String spoiled(String text) {
        StringBuilder b = new StringBuilder(text);
        String signs = "abcdefghilmoprst0123456789;  ,A" + (char) 200;
        for (int i = any(1, 3); i > 0 && b.length() > 0; i--) {
            int at = dice.nextInt(b.length());
            switch (any(0, 3)) {
                case 0 -> b.deleteCharAt(at);
                case 1 -> b.insert(at, signs.charAt(dice.nextInt(signs.length())));
                case 2 -> b.setCharAt(at, signs.charAt(dice.nextInt(signs.length())));
                default -> b.setLength(at);
            }
        }
        if (b.length() > 200) b.setLength(200);
        return b.toString();
    }
    static void tell(String text) {
        byte[] b = text.getBytes(java.nio.charset.StandardCharsets.ISO_8859_1);
        if (any(0, 5) > 0) { same("end(0)", x.end(0), m.end(0)); }
        log.append(text).append('\n');
        for (int i = 0; i < b.length; i += 8) {
            long v = java.nio.ByteBuffer.wrap(Arrays.copyOf(Arrays.copyOfRange(b, i, Math.min(i + 8, b.length)), 8)).getLong();
            same("feed", x.feed(v), m.feed(v));
        }
        same("end", x.end(b.length), m.end(b.length));
        same("text", x.text(), m.text());
        same("fault", x.fault(), m.fault);
        all();
    }
    static void all() {
        for (int p = -1; p <= 4; p++) for (int w = -1; w <= 3; w++) same("part", x.part(p, w), m.part(p, w));
        for (int w = -1; w <= 7; w++) same("rule" + w, x.rule(w), m.rule(w));
        for (int w = -1; w <= 10; w++) same("known" + w, x.known(w), m.known(w));
        for (int w = -1; w <= 9; w++) same("count" + w, x.count(w), m.count(w));
        same("torn", x.torn(), m.torn);
        same("cost", x.cost(), m.cost());
        same("drawing", x.drawing(), m.drawing());
    }
    static int law() {
        int r = any(0, 9);
        if (r < 2) return about(0, 14640);
        if (r < 5) return ((m.t.falls[0] * 11 + m.t.falls[1]) * 11 + m.t.falls[2]) * 11 + m.t.falls[3];
        if (r < 8 && !m.fit().isEmpty()) return m.fit().get(dice.nextInt(m.fit().size()));
        return any(0, 14640);
    }
    static void change() {
        switch (any(0, 9)) {
            case 0 -> { int n = about(1, 99), h = any(0, 3) == 0 ? about(0, 99) : any(0, Math.max(0, Math.min(n, 99)));
                int q = any(0, 1) == 0 ? about(0, 255) : new int[] {0, 64, 16, 1, 4, 84, 192, 3, 20}[any(0, 8)];
                same("told(" + n + "," + h + "," + q + ")", x.told(n, h, q), m.told(n, h, q)); }
            case 1, 2, 3 -> { int n = about(1, 99); same("draw(" + n + ")", x.draw(n), m.draw(n)); }
            case 4 -> { int v = dice.nextInt(); same("seed(" + v + ")", x.seed(v), m.seed(v)); }
            case 5 -> { int p = about(0, 3); boolean is = dice.nextBoolean(); same("wreck(" + p + "," + is + ")", x.wreck(p, is), m.wreck(p, is)); }
            case 6 -> { int p = about(0, 3), s = about(0, 20), f = about(0, Math.max(0, Math.min(s, 20)));
                same("ground(" + p + "," + s + "," + f + ")", x.ground(p, s, f), m.ground(p, s, f)); }
            case 7 -> same("undo()", x.undo(), m.undo());
            case 8 -> sheets();
            default -> tell(any(0, 1) == 0 ? goodText() : spoiled(goodText()));
        }
        all();
    }
    static void sheets() {
        int k = about(0, 3), lane = about(0, 2), n = about(-1, 48);
        if (any(0, 1) == 0) same("sheet(" + k + "," + lane + "," + n + ")", x.sheet(k, lane, n), m.sheet(k, lane, n));
        for (int i = any(0, 12); i > 0; i--) {
            int at = about(0, 47), v = any(0, 9) == 0 ? dice.nextInt() : any(0, 9) == 0 ? 256 * any(-300, 300) : any(0, 1);
            int s = any(0, 3) == 0 ? about(0, 3) : k;
            same("lay(" + s + "," + at + "," + v + ")", x.lay(s, at, v), m.lay(s, at, v));
        }
        int l = any(0, 5) == 0 ? about(0, 2) : lane, f = any(0, 1) == 0 ? 4 * any(0, 11) : about(0, 48), c = about(0, 12);
        same("read(" + k + "," + l + "," + f + "," + c + ")", x.read(k, l, f, c), m.read(k, l, f, c));
        same("torn()", x.torn(), m.torn);
    }
    static void askCheaply() {
        for (int i = 0; i < 6; i++) {
            int law = law();
            String l = "(" + law + ")";
            int n = about(0, 3), w = about(0, 1), s = about(0, 15);
            same("share" + l + n, x.share(law, n, w), m.share(law, n, w));
            same("holes" + l + n, x.holes(law, n, w), m.holes(law, n, w));
            same("fits" + l, x.fits(law), m.fits(law));
            same("near" + l, x.near(law), m.near(law));
            same("lost" + l + s, x.lost(law, s, w), m.lost(law, s, w));
            same("best" + l, x.best(law), m.best(law));
            same("wrong" + l, x.wrong(law), m.wrong(law));
        }
    }
    static void askAll() {
        for (int w = -1; w <= 3; w++) same("laws" + w, x.laws(w), m.laws(w));
        for (int p = -1; p <= 4; p++) {
            for (int w = -1; w <= 2; w++) same("span(" + p + "," + w + ")", x.span(p, w), m.span(p, w));
            for (int r = -1; r <= 4; r++) same("say(" + p + "," + r + ")", x.say(p, r), m.say(p, r));
        }
        if (m.fit().size() > 2500) return;
        same("safest", x.safest(), m.safest());
        for (int w = -1; w <= 3; w++) same("unlike" + w, x.unlike(w), m.unlike(w));
        for (int i = 0; i < 4; i++) {
            int p = about(0, 3), k = about(1, 20), w = any(0, 3) == 0 ? 21 : any(0, 3) == 0 ? 22 : about(0, 20);
            if (w == 21 || w == 22) k = Math.min(k, 5);
            same("trial(" + p + "," + k + "," + w + ")", x.trial(p, k, w), m.trial(p, k, w));
        }
    }

    public static void main(String[] args) {
        int runs = args.length > 0 ? Integer.parseInt(args[0]) : 60;
        for (int run = 0; run < runs; run++) {
            x = new MissingHoles();
            m = new Model();
            log = new StringBuilder("run " + run + "\n");
            all();
            if (run % 3 > 0) tell(goodText());
            for (int i = 0; i < 25; i++) {
                change();
                if (any(0, 3) == 0) askCheaply();
                if (any(0, 7) == 0) askAll();
            }
            askAll();
        }
        System.out.println(asked + " answers beside the model, " + wrong + " unlike it");
        if (wrong != 0) System.exit(1);
    }
}
