public final class MissingHoles {
    public static final int BAD = -1, STATE = -2, FULL = -3, NONE = -4;

    private static final int PARTS = 4;
    private static final int SETS = 16;
    private static final int LAWS = 14641;
    private static final int MOST_FALLS = 10;
    private static final int MOST_STAND = 800;
    private static final int MOST_SLIP = 99;
    private static final int MOST_SORTIES = 999;
    private static final int MOST_AT_ONCE = 99;
    private static final int MOST_SHOTS = 20;
    private static final int SHEETS = 4;

    private final Terms terms;
    private final Tape tape;
    private final Reader reader;
    private final Homes homes;
    private final Evidence evidence;
    private final Grid grid;
    private final Plating plating;
    private final Flight flight;
    private final Sheet[] sheets;
    private int tornFault;

    public MissingHoles() {
        terms = new Terms();
        tape = new Tape();
        reader = new Reader(tape);
        homes = new Homes();
        evidence = new Evidence();
        grid = new Grid(terms, homes, evidence);
        plating = new Plating(terms);
        flight = new Flight(terms, homes);
        sheets = new Sheet[SHEETS];
        for (int k = 0; k < SHEETS; k++) {
            sheets[k] = new Sheet();
        }
        tornFault = 0;
    }

    // ---- the text

    public int feed(long v) {
        return tape.put(v) ? tape.size : FULL;
    }

    public int end(int n) {
        int had = tape.size;
        if (n < 0 || n > had) {
            return BAD;
        }
        tape.size = n;
        return had;
    }

    public int text() {
        reader.readTape();
        tape.size = 0;
        if (reader.fault != 0) {
            return -10 - reader.place;
        }
        terms.take(reader.draft);
        plating.settle();
        grid.forget();
        return reader.lines;
    }

    public int fault() {
        return reader.fault;
    }

    public int part(int p, int what) {
        return isPart(p) && what >= 0 && what <= 2 ? terms.parts[PARTS * what + p] : BAD;
    }

    public int rule(int what) {
        return what >= 0 && what <= 6 ? terms.rules[what] : BAD;
    }

    // ---- what is known

    public int told(int n, int homes, int holes) {
        if (n < 1 || n > MOST_AT_ONCE || homes < 0 || homes > n || !areHoles(holes)) {
            return BAD;
        }
        if (this.homes.sorties() + n > MOST_SORTIES) {
            return FULL;
        }
        this.homes.beginAct();
        this.homes.add(Homes.SORTIES, n);
        this.homes.addHomes(homes, holes >> 6, (holes >> 4) & 3, (holes >> 2) & 3, holes & 3);
        grid.forget();
        return this.homes.sorties();
    }

    public int draw(int n) {
        if (n < 1 || n > MOST_AT_ONCE) {
            return BAD;
        }
        if (homes.sorties() + n > MOST_SORTIES) {
            return FULL;
        }
        homes.beginAct();
        int came = 0;
        for (int i = 0; i < n; i++) {
            came += flight.fly() ? 1 : 0;
        }
        grid.forget();
        return came;
    }

    public int seed(int v) {
        int was = flight.seed;
        flight.seed = v;
        return was;
    }

    public int wreck(int p, boolean is) {
        if (!isPart(p)) {
            return BAD;
        }
        int was = evidence.wrecks[p] ? 1 : 0;
        evidence.wrecks[p] = is;
        grid.forget();
        return was;
    }

    public int ground(int p, int shots, int f) {
        if (!isPart(p) || shots < 0 || shots > MOST_SHOTS || f < 0 || f > shots) {
            return BAD;
        }
        int was = evidence.shots[p];
        evidence.shots[p] = shots;
        evidence.downs[p] = f;
        grid.forget();
        return was;
    }

    public int known(int what) {
        if (what < 0 || what > 9) {
            return BAD;
        }
        return what == 9 ? homes.sorties() - homes.allHomes() : homes.sums[what];
    }

    public int undo() {
        if (homes.acts == 0) {
            return NONE;
        }
        homes.takeBack();
        grid.forget();
        return homes.acts;
    }

    // ---- laws

    public long share(int law, int n, int what) {
        if (!isLaw(law) || n < 0 || n > 3 || !isSide(what)) {
            return BAD;
        }
        return lowest(terms.homesTop(n, terms.stand(law)), terms.bottom, what);
    }

    public long holes(int law, int p, int what) {
        if (!isLaw(law) || !isPart(p) || !isSide(what)) {
            return BAD;
        }
        long top = terms.partStand(p, figure(law, p)) * terms.holeRate(terms.stand(law));
        return lowest(top, terms.bottom, what);
    }

    public int fits(int law) {
        if (!isLaw(law)) {
            return BAD;
        }
        return grid.lawFits(law, terms.rules[Terms.SLIP]) ? 1 : 0;
    }

    public int laws(int what) {
        if (what < 0 || what > 2) {
            return BAD;
        }
        int size = grid.fitting();
        if (what == 0) {
            return size;
        }
        if (size == 0) {
            return NONE;
        }
        return what == 1 ? grid.least : grid.greatest;
    }

    public int span(int p, int what) {
        if (!isPart(p) || !isSide(what)) {
            return BAD;
        }
        if (grid.fitting() == 0) {
            return NONE;
        }
        int least = MOST_FALLS;
        int most = 0;
        for (int falls = 0; falls <= MOST_FALLS; falls++) {
            if (grid.withFalls(p, falls) > 0) {
                least = Math.min(least, falls);
                most = falls;
            }
        }
        return what == 0 ? least : most;
    }

    public int say(int p, int r) {
        if (!isPart(p) || !isPart(r) || p == r) {
            return BAD;
        }
        int size = grid.fitting();
        if (size == 0) {
            return NONE;
        }
        int more = grid.oftenerIn(p, r);
        if (more == size) {
            return 1;
        }
        return more == 0 ? 2 : 0;
    }

    public int cost() {
        long left = homes.sorties() - homes.withHoles(0);
        long one = homes.withHoles(1);
        long two = homes.withHoles(2);
        long three = homes.withHoles(3);
        for (long p = 1; p <= 100; p++) {
            if (100 * (100 * (100 * three + two * p) + one * p * p) <= left * p * p * p) {
                return (int) p;
            }
        }
        return NONE;
    }

    public int near(int law) {
        if (!isLaw(law)) {
            return BAD;
        }
        for (int slip = 0; slip <= MOST_SLIP; slip++) {
            if (grid.lawFits(law, slip)) {
                return slip;
            }
        }
        return NONE;
    }

    // ---- plates

    public long lost(int law, int plates, int what) {
        if (!isLaw(law) || plates < 0 || plates >= SETS || !isSide(what) || !plating.light[plates]) {
            return BAD;
        }
        long bottom = 100 * terms.bottom;
        return lowest(bottom - plating.homesBy(law, plates) * terms.notOther(), bottom, what);
    }

    public int best(int law) {
        return isLaw(law) ? plating.bestFor(law) : BAD;
    }

    public int safest() {
        return grid.fitting() == 0 ? NONE : grid.safestPlates(plating);
    }

    public int drawing() {
        return plating.drawnFrom(homes);
    }

    public int wrong(int law) {
        if (!isLaw(law)) {
            return BAD;
        }
        long more = plating.homesBy(law, plating.bestFor(law)) - plating.homesBy(law, plating.drawnFrom(homes));
        // LOST is by 1000 times this bottom: the 1000 SORTIES take that factor away, so nothing overflows.
        long bottom = 100 * terms.bottom / 1000;
        return bottom < 1 ? 0 : (int) ((more * terms.notOther() + bottom - 1) / bottom);
    }

    public int unlike(int what) {
        if (what < 0 || what > 2) {
            return BAD;
        }
        if (grid.fitting() == 0) {
            return NONE;
        }
        int other = grid.unlikeLaw(plating);
        if (other == NONE) {
            return NONE;
        }
        if (what == 2) {
            return farthestPart(grid.least, other);
        }
        return what == 0 ? grid.least : other;
    }

    public int trial(int p, int k, int what) {
        if (!isPart(p) || k < 1 || k > MOST_SHOTS || what < 0 || what > 22 || (what <= 20 && what > k)) {
            return BAD;
        }
        if (grid.fitting() == 0) {
            return NONE;
        }
        if (what <= 20) {
            return grid.leftBy(p, k, what);
        }
        int most = 0;
        int some = 0;
        for (int f = 0; f <= k; f++) {
            int left = grid.leftBy(p, k, f);
            most = Math.max(most, left);
            some += left > 0 ? 1 : 0;
        }
        return what == 21 ? most : some;
    }

    // ---- sheets

    public int sheet(int k, int lane, int n) {
        if (!isSheet(k) || !isLane(lane) || n > Sheet.MOST) {
            return BAD;
        }
        if (n < 0) {
            return -10 - Sheet.SIZE;
        }
        sheets[k].renew(lane, n);
        return 1;
    }

    public int lay(int k, int i, int v) {
        if (!isSheet(k)) {
            return BAD;
        }
        Sheet to = sheets[k];
        int found = to.faultAt(to.lane, i);
        if (found != 0) {
            return -10 - found;
        }
        to.put(i, v);
        return 1;
    }

    public int read(int k, int lane, int f, int n) {
        if (!isSheet(k) || !isLane(lane) || n < 0 || n > Sheet.MOST / PARTS) {
            return BAD;
        }
        Sheet from = sheets[k];
        int found = 0;
        int whole = 0;
        for (int i = 0; i < n && found == 0; i++) {
            found = from.faultOfHome(lane, f + PARTS * i);
            if (found == 0) {
                if (!from.isHome(f + PARTS * i)) {
                    return -20 - i;
                }
                if (homes.sorties() + i + 1 > MOST_SORTIES) {
                    return FULL;
                }
                whole++;
            }
        }
        takeHomes(from, f, whole);
        tornFault = found;
        return whole;
    }

    public int torn() {
        return tornFault;
    }

    public int count(int what) {
        switch (what) {
            case 0:
                return homes.sorties();
            case 1:
                return homes.allHomes();
            case 2:
                return evidence.allWrecks();
            case 3:
                return evidence.allTried();
            case 4:
                return homes.acts;
            case 5:
                return flight.seed;
            case 6:
                return tape.size;
            case 7:
                return sheets[0].lane == Sheet.NOTHING ? NONE : sheets[0].size;
            case 8:
                return homes.sums[Homes.FELL];
            default:
                return BAD;
        }
    }

    // ---- what the calls share

    private static boolean isPart(int p) {
        return p >= 0 && p < PARTS;
    }

    private static boolean isLaw(int law) {
        return law >= 0 && law < LAWS;
    }

    private static boolean isSide(int what) {
        return what == 0 || what == 1;
    }

    private static boolean isSheet(int k) {
        return k >= 0 && k < SHEETS;
    }

    private static boolean isLane(int lane) {
        return lane >= 0 && lane <= 2;
    }

    private static boolean areHoles(int holes) {
        return holes >= 0 && holes <= 255
            && (holes >> 6) + ((holes >> 4) & 3) + ((holes >> 2) & 3) + (holes & 3) <= 3;
    }

    private static int figure(int law, int p) {
        switch (p) {
            case 0:
                return law / 1331;
            case 1:
                return law / 121 % 11;
            case 2:
                return law / 11 % 11;
            default:
                return law % 11;
        }
    }

    private static int farthestPart(int law, int other) {
        int part = 0;
        int farthest = -1;
        for (int p = 0; p < PARTS; p++) {
            int apart = Math.abs(figure(law, p) - figure(other, p));
            if (apart > farthest) {
                farthest = apart;
                part = p;
            }
        }
        return part;
    }

    private static boolean isNearTrial(int shots, int f, int falls) {
        return Math.abs(10 * f - shots * falls) <= 10;
    }

    private static long lowest(long top, long bottom, int what) {
        long a = Math.abs(top);
        long b = Math.abs(bottom);
        for (int i = 0; i < 200 && b != 0; i++) {
            long rest = a % b;
            a = b;
            b = rest;
        }
        if (a == 0) {
            return what == 0 ? 0 : 1;
        }
        return what == 0 ? top / a : bottom / a;
    }

    private void takeHomes(Sheet from, int f, int whole) {
        homes.beginAct();
        homes.add(Homes.SORTIES, whole);
        for (int i = 0; i < whole; i++) {
            int at = f + PARTS * i;
            homes.addHomes(1, from.cell(at), from.cell(at + 1), from.cell(at + 2), from.cell(at + 3));
        }
        grid.forget();
    }

    /** What a text tells, and what follows from it for all laws alike. */
    private static final class Terms {
        static final int FALLS = 4;
        static final int WEIGHT = 8;
        static final int OTHER = 4;
        static final int SLIP = 5;
        static final int LIMIT = 6;

        /** AREA of each PART, then FALLS, then WEIGHT. */
        final int[] parts = new int[3 * PARTS];
        /** HITS 0 to 3, OTHER, SLIP, LIMIT. */
        final int[] rules = new int[7];
        int allAreas;
        int allHits;
        /** Ten times all AREAS: X, if no hit brings one down. */
        long scale;
        /** One denominator for all SHARES and HOLES, so that they are compared by their numerators. */
        long bottom;

        Terms() {
            standAsUntold();
            settle();
        }

        void standAsUntold() {
            for (int p = 0; p < PARTS; p++) {
                parts[p] = 10;
                parts[FALLS + p] = 2;
                parts[WEIGHT + p] = 5;
                rules[p] = 1;
            }
            rules[OTHER] = 0;
            rules[SLIP] = 5;
            rules[LIMIT] = 10;
        }

        void take(Terms from) {
            System.arraycopy(from.parts, 0, parts, 0, parts.length);
            System.arraycopy(from.rules, 0, rules, 0, rules.length);
            settle();
        }

        void settle() {
            allAreas = 0;
            allHits = 0;
            for (int p = 0; p < PARTS; p++) {
                allAreas += parts[p];
                allHits += rules[p];
            }
            scale = 10L * allAreas;
            bottom = allHits * scale * scale * scale * 1000;
        }

        long notOther() {
            return 1000 - rules[OTHER];
        }

        int partStand(int p, int falls) {
            return parts[p] * (10 - falls);
        }

        int stand(int law) {
            int x = 0;
            for (int p = 0; p < PARTS; p++) {
                x += partStand(p, figure(law, p));
            }
            return x;
        }

        long homesTop(int n, long x) {
            long top = rules[n] * notOther();
            for (int i = 0; i < 3; i++) {
                top *= i < n ? x : scale;
            }
            return top;
        }

        long holeRate(long x) {
            return (rules[1] * scale * scale + 2 * rules[2] * x * scale + 3 * rules[3] * x * x) * notOther();
        }
    }

    /** THE TAPE, and its tokens one by one. */
    private static final class Tape {
        static final int MOST = 200;
        static final int NO_TOKEN = 0;
        static final int END = 1;
        static final int NAME = 2;
        static final int NUMBER = 3;
        static final int CLOSE = 4;
        static final int MOST_FIGURES = 3;

        final byte[] bytes = new byte[MOST];
        int size;
        int kind;
        int start;
        int at;

        boolean put(long v) {
            if (size + 8 > MOST) {
                return false;
            }
            for (int i = 0; i < 8; i++) {
                bytes[size + i] = (byte) (v >> (56 - 8 * i));
            }
            size += 8;
            return true;
        }

        void rewind() {
            at = 0;
            start = 0;
            kind = NO_TOKEN;
        }

        void next() {
            while (at < size && bytes[at] == ' ') {
                at++;
            }
            start = at;
            if (at >= size) {
                kind = END;
            } else if (skips('a', 'z')) {
                kind = NAME;
            } else if (skips('0', '9')) {
                kind = at - start <= MOST_FIGURES ? NUMBER : NO_TOKEN;
            } else if (bytes[at] == ';') {
                at++;
                kind = CLOSE;
            } else {
                kind = NO_TOKEN;
            }
        }

        int number() {
            int value = 0;
            for (int i = start; i < at; i++) {
                value = 10 * value + bytes[i] - '0';
            }
            return value;
        }

        /** The letter of a NAME of one letter, from 0; else -1. */
        int letter() {
            return kind == NAME && at - start == 1 ? bytes[start] - 'a' : -1;
        }

        /** Whether the token is the word that stands in a text from a place on, with a blank behind it. */
        boolean isWord(String words, int from) {
            int length = at - start;
            if (kind != NAME || from + length >= words.length() || words.charAt(from + length) != ' ') {
                return false;
            }
            for (int i = 0; i < length; i++) {
                if (words.charAt(from + i) != bytes[start + i]) {
                    return false;
                }
            }
            return true;
        }

        /** Passes all signs of a kind: whether there was one. */
        private boolean skips(char low, char high) {
            while (at < size && bytes[at] >= low && bytes[at] <= high) {
                at++;
            }
            return at > start;
        }
    }

    /** Reads a text into a draft, so that a text with a FAULT leaves all as it was. */
    private static final class Reader {
        static final String WORDS = "area  falls plate hits  other slip  limit ";
        static final int WORD_ROOM = 6;
        static final int LINES = 7;
        static final int HITS_LINE = 3;
        static final int[] LEAST = {1, 0, 0, 0, 0, 0, 0};
        static final int[] MOST = {20, 10, 20, 99, 999, 99, 60};

        final Tape tape;
        final Terms draft = new Terms();
        final boolean[] partTold = new boolean[3 * PARTS];
        final boolean[] lineTold = new boolean[LINES];
        int fault;
        int place;
        int lines;

        Reader(Tape tape) {
            this.tape = tape;
        }

        void readTape() {
            begin();
            advance();
            for (int i = 0; i < Tape.MOST && fault == 0 && tape.kind != Tape.END; i++) {
                readLine();
            }
        }

        private void begin() {
            draft.standAsUntold();
            for (int i = 0; i < partTold.length; i++) {
                partTold[i] = false;
            }
            for (int i = 0; i < LINES; i++) {
                lineTold[i] = false;
            }
            fault = 0;
            place = 0;
            lines = 0;
            tape.rewind();
        }

        private void fail(int found) {
            if (fault == 0) {
                fault = found;
                place = tape.start;
            }
        }

        private void advance() {
            if (fault != 0) {
                return;
            }
            tape.next();
            if (tape.kind == Tape.NO_TOKEN) {
                fail(1);
            }
        }

        private int lineNamed() {
            for (int line = 0; line < LINES; line++) {
                if (tape.isWord(WORDS, WORD_ROOM * line)) {
                    return line;
                }
            }
            return -1;
        }

        private void readLine() {
            int line = lineNamed();
            if (line < 0) {
                fail(2);
                return;
            }
            if (line >= HITS_LINE && lineTold[line]) {
                fail(4);
                return;
            }
            lineTold[line] = true;
            advance();
            if (line < HITS_LINE) {
                readPartLine(line);
            } else if (line == HITS_LINE) {
                readHits();
            } else {
                draft.rules[line] = seenNumber(line);
                advance();
            }
            readClose();
        }

        private void readPartLine(int line) {
            if (fault != 0) {
                return;
            }
            int p = tape.letter();
            if (!isPart(p)) {
                fail(2);
                return;
            }
            int slot = PARTS * line + p;
            if (partTold[slot]) {
                fail(4);
                return;
            }
            partTold[slot] = true;
            advance();
            draft.parts[slot] = seenNumber(line);
            advance();
        }

        private void readHits() {
            int all = 0;
            for (int n = 0; n <= 3 && fault == 0; n++) {
                draft.rules[n] = seenNumber(HITS_LINE);
                all += draft.rules[n];
                if (n == 3 && all == 0) {
                    fail(3);
                }
                advance();
            }
        }

        /** The token as a NUMBER of a line, still to be passed: its FAULTS are met ahead of those behind it. */
        private int seenNumber(int line) {
            if (tape.kind != Tape.NUMBER) {
                fail(2);
                return 0;
            }
            int value = tape.number();
            if (value < LEAST[line] || value > MOST[line]) {
                fail(3);
            }
            return value;
        }

        private void readClose() {
            if (fault != 0) {
                return;
            }
            if (tape.kind != Tape.CLOSE) {
                fail(2);
                return;
            }
            lines++;
            advance();
        }
    }

    /** HOMES, and the ACTS that made them. */
    private static final class Homes {
        static final int SORTIES = 0;
        static final int BY_HOLES = 1;
        static final int IN_PARTS = 5;
        static final int FELL = 9;
        static final int SUMS = 10;
        static final int KEPT_ACTS = 8;

        /** SORTIES, homes with 0 to 3 holes, holes of PARTS 0 to 3, those DRAWN that fell. */
        final int[] sums = new int[SUMS];
        final int[][] changes = new int[KEPT_ACTS][SUMS];
        int latest;
        int acts;

        int sorties() {
            return sums[SORTIES];
        }

        int withHoles(int n) {
            return sums[BY_HOLES + n];
        }

        int allHomes() {
            return withHoles(0) + withHoles(1) + withHoles(2) + withHoles(3);
        }

        int inPart(int p) {
            return sums[IN_PARTS + p];
        }

        void beginAct() {
            latest = (latest + 1) % KEPT_ACTS;
            acts = Math.min(acts + 1, KEPT_ACTS);
            for (int i = 0; i < SUMS; i++) {
                changes[latest][i] = 0;
            }
        }

        void add(int sum, int n) {
            sums[sum] += n;
            changes[latest][sum] += n;
        }

        void addHomes(int n, int a, int b, int c, int d) {
            int holes = a + b + c + d;
            if (holes < 0 || holes > 3) {
                return;
            }
            add(BY_HOLES + holes, n);
            add(IN_PARTS, n * a);
            add(IN_PARTS + 1, n * b);
            add(IN_PARTS + 2, n * c);
            add(IN_PARTS + 3, n * d);
        }

        void takeBack() {
            for (int i = 0; i < SUMS; i++) {
                sums[i] -= changes[latest][i];
            }
            latest = (latest + KEPT_ACTS - 1) % KEPT_ACTS;
            acts--;
        }
    }

    /** WRECKS and GROUND. */
    private static final class Evidence {
        final boolean[] wrecks = new boolean[PARTS];
        final int[] shots = new int[PARTS];
        final int[] downs = new int[PARTS];

        boolean allows(int p, int falls) {
            return (falls > 0 || !wrecks[p]) && isNearTrial(shots[p], downs[p], falls);
        }

        int allWrecks() {
            int all = 0;
            for (int p = 0; p < PARTS; p++) {
                all += wrecks[p] ? 1 : 0;
            }
            return all;
        }

        int allTried() {
            int all = 0;
            for (int p = 0; p < PARTS; p++) {
                all += shots[p] > 0 ? 1 : 0;
            }
            return all;
        }
    }

    /** SORTIES as they are DRAWN by THE TRUE LAW. */
    private static final class Flight {
        final Terms terms;
        final Homes homes;
        final int[] struck = new int[PARTS];
        int seed;

        Flight(Terms terms, Homes homes) {
            this.terms = terms;
            this.homes = homes;
        }

        /** Whether it came home. */
        boolean fly() {
            homes.add(Homes.SORTIES, 1);
            if (roll(1000) < terms.rules[Terms.OTHER]) {
                return false;
            }
            int hits = pick(terms.rules, terms.allHits);
            for (int p = 0; p < PARTS; p++) {
                struck[p] = 0;
            }
            for (int i = 0; i < hits; i++) {
                int p = pick(terms.parts, terms.allAreas);
                if (roll(10) < terms.parts[Terms.FALLS + p]) {
                    homes.add(Homes.FELL, 1);
                    return false;
                }
                struck[p]++;
            }
            homes.addHomes(1, struck[0], struck[1], struck[2], struck[3]);
            return true;
        }

        private int roll(int k) {
            seed = seed * 1103515245 + 12345;
            return k < 1 ? 0 : ((seed >>> 16) & 0x7fff) % k;
        }

        /** One of a row's first four, by their weights. */
        private int pick(int[] weights, int all) {
            int rest = roll(all);
            for (int i = 0; i < 3; i++) {
                if (rest < weights[i]) {
                    return i;
                }
                rest -= weights[i];
            }
            return 3;
        }
    }

    /** The LAWS that FIT, found anew only when something they hang on has changed. */
    private static final class Grid {
        static final int UNKNOWN = -9;
        static final int NO_RATE = -1;
        static final int FIGURES = 11;
        static final int ROWS = LAWS / FIGURES;

        final Terms terms;
        final Homes homes;
        final Evidence evidence;
        /** The LAWS that FIT: a row for the figures of PARTS 0 to 2, in it a bit for each figure of PART 3. */
        final int[] rows = new int[ROWS];
        /** For each X what holes are worked out by; NO_RATE, if by this X no LAW FITS. */
        final long[] rates = new long[MOST_STAND + 1];
        /** For each PART and each FALLS of it how many LAWS FIT. */
        final int[] tally = new int[PARTS * FIGURES];
        final int[] worst = new int[SETS];
        int size;
        int least;
        int greatest;
        boolean stale = true;
        int safestFound = UNKNOWN;
        int unlikeFound = UNKNOWN;

        Grid(Terms terms, Homes homes, Evidence evidence) {
            this.terms = terms;
            this.homes = homes;
            this.evidence = evidence;
        }

        void forget() {
            stale = true;
            safestFound = UNKNOWN;
            unlikeFound = UNKNOWN;
        }

        boolean lawFits(int law, int slip) {
            for (int p = 0; p < PARTS; p++) {
                if (!evidence.allows(p, figure(law, p))) {
                    return false;
                }
            }
            int x = terms.stand(law);
            if (!homesAreNear(x, slip)) {
                return false;
            }
            long rate = terms.holeRate(x);
            for (int p = 0; p < PARTS; p++) {
                if (!holesAreNear(p, figure(law, p), rate, slip)) {
                    return false;
                }
            }
            return true;
        }

        int fitting() {
            if (stale) {
                settleStands();
                gather();
                stale = false;
            }
            return size;
        }

        /** How many LAWS FIT by which a PART has these FALLS. */
        int withFalls(int p, int falls) {
            return tally[FIGURES * p + falls];
        }

        /** How many of the LAWS that FIT would be left by a trial. */
        int leftBy(int p, int shots, int f) {
            int left = 0;
            for (int falls = 0; falls <= MOST_FALLS; falls++) {
                left += isNearTrial(shots, f, falls) ? withFalls(p, falls) : 0;
            }
            return left;
        }

        int oftenerIn(int p, int r) {
            int more = 0;
            for (int law = least; law <= greatest; law++) {
                more += isKept(law) && figure(law, p) > figure(law, r) ? 1 : 0;
            }
            return more;
        }

        /** More stands, more homes: the worst LAW for PLATES is the one with the least X under them. */
        int safestPlates(Plating plating) {
            if (safestFound == UNKNOWN) {
                for (int set = 0; set < SETS; set++) {
                    worst[set] = MOST_STAND;
                }
                for (int law = least; law <= greatest; law++) {
                    if (isKept(law)) {
                        plating.standAll(law);
                        for (int set = 0; set < SETS; set++) {
                            worst[set] = Math.min(worst[set], plating.stands[set]);
                        }
                    }
                }
                safestFound = plating.mostHomes(worst);
            }
            return safestFound;
        }

        /** The least LAW that FITS with other BEST PLATES than the least of all has; NONE. */
        int unlikeLaw(Plating plating) {
            if (unlikeFound == UNKNOWN) {
                unlikeFound = NONE;
                int first = plating.bestFor(least);
                for (int law = least + 1; law <= greatest && unlikeFound == NONE; law++) {
                    if (isKept(law) && plating.bestFor(law) != first) {
                        unlikeFound = law;
                    }
                }
            }
            return unlikeFound;
        }

        private boolean homesAreNear(int x, int slip) {
            for (int n = 0; n <= 3; n++) {
                long due = homes.sorties() * terms.homesTop(n, x);
                if (Math.abs(due - homes.withHoles(n) * terms.bottom) > slip * terms.bottom) {
                    return false;
                }
            }
            return true;
        }

        private boolean holesAreNear(int p, int falls, long rate, int slip) {
            long due = homes.sorties() * (terms.partStand(p, falls) * rate);
            return Math.abs(due - homes.inPart(p) * terms.bottom) <= slip * terms.bottom;
        }

        /** What a LAW gives hangs mostly on its X, and there are far fewer X than LAWS. */
        private void settleStands() {
            int slip = terms.rules[Terms.SLIP];
            for (int x = 0; x <= MOST_STAND && x <= terms.scale; x++) {
                rates[x] = homesAreNear(x, slip) ? terms.holeRate(x) : NO_RATE;
            }
        }

        private void gather() {
            keepNone();
            for (int a = 0; a <= MOST_FALLS; a++) {
                for (int b = 0; b <= MOST_FALLS; b++) {
                    if (evidence.allows(0, a) && evidence.allows(1, b)) {
                        gatherWith(a, b);
                    }
                }
            }
        }

        private void gatherWith(int a, int b) {
            int stand = terms.partStand(0, a) + terms.partStand(1, b);
            for (int c = 0; c <= MOST_FALLS; c++) {
                if (!evidence.allows(2, c)) {
                    continue;
                }
                for (int d = 0; d <= MOST_FALLS; d++) {
                    int x = stand + terms.partStand(2, c) + terms.partStand(3, d);
                    if (x >= 0 && x <= MOST_STAND && rates[x] != NO_RATE && evidence.allows(3, d)
                        && allHolesAreNear(a, b, c, d, rates[x])) {
                        keep(a, b, c, d);
                    }
                }
            }
        }

        private void keepNone() {
            for (int row = 0; row < ROWS; row++) {
                rows[row] = 0;
            }
            for (int i = 0; i < PARTS * FIGURES; i++) {
                tally[i] = 0;
            }
            size = 0;
            least = 0;
            greatest = -1;
        }

        private void keep(int a, int b, int c, int d) {
            int row = (a * FIGURES + b) * FIGURES + c;
            int law = row * FIGURES + d;
            rows[row] |= 1 << d;
            tally[a]++;
            tally[FIGURES + b]++;
            tally[2 * FIGURES + c]++;
            tally[3 * FIGURES + d]++;
            least = size == 0 ? law : least;
            greatest = law;
            size++;
        }

        private boolean isKept(int law) {
            return law >= 0 && law < LAWS && (rows[law / FIGURES] >> law % FIGURES & 1) == 1;
        }

        private boolean allHolesAreNear(int a, int b, int c, int d, long rate) {
            int slip = terms.rules[Terms.SLIP];
            return holesAreNear(0, a, rate, slip) && holesAreNear(1, b, rate, slip)
                && holesAreNear(2, c, rate, slip) && holesAreNear(3, d, rate, slip);
        }
    }

    /** PLATES: what they weigh, and how many homes are left by them. */
    private static final class Plating {
        final Terms terms;
        /** Whether a set of PARTS is within LIMIT. */
        final boolean[] light = new boolean[SETS];
        /** For each set what X to the n is taken times, n 0 to 3, for all homes. */
        final long[] factors = new long[4 * SETS];
        final int[] stands = new int[SETS];

        Plating(Terms terms) {
            this.terms = terms;
            settle();
        }

        void settle() {
            for (int set = 0; set < SETS; set++) {
                int weight = weightOf(set);
                light[set] = weight <= terms.rules[Terms.LIMIT];
                settleFactors(set, weight);
            }
        }

        /** X of a LAW under each set of PLATES. */
        void standAll(int law) {
            stands[0] = terms.stand(law);
            for (int p = 0; p < PARTS; p++) {
                int falls = figure(law, p);
                int gain = terms.partStand(p, falls / 2) - terms.partStand(p, falls);
                int bit = 1 << p;
                for (int set = 0; set < bit; set++) {
                    stands[bit + set] = stands[set] + gain;
                }
            }
        }

        /** All homes, by 100 times all HITS times all X to the 3: the same for all LAWS and PLATES. */
        long homesBy(int law, int set) {
            standAll(law);
            return homesAt(set, stands[set]);
        }

        int bestFor(int law) {
            standAll(law);
            return mostHomes(stands);
        }

        /** The least set within LIMIT with the most homes, each set having its own X. */
        int mostHomes(int[] standOf) {
            int found = 0;
            long most = -1;
            for (int set = 0; set < SETS; set++) {
                if (light[set]) {
                    long all = homesAt(set, standOf[set]);
                    if (all > most) {
                        most = all;
                        found = set;
                    }
                }
            }
            return found;
        }

        int drawnFrom(Homes homes) {
            int seen = 0;
            int set = 0;
            for (int i = 0; i < PARTS; i++) {
                int p = mostHoles(homes, seen);
                seen |= 1 << p;
                if (light[set | 1 << p]) {
                    set |= 1 << p;
                }
            }
            return set;
        }

        private int mostHoles(Homes homes, int seen) {
            int found = -1;
            for (int p = 0; p < PARTS; p++) {
                if ((seen >> p & 1) == 0 && (found < 0
                    || homes.inPart(p) * terms.parts[found] > homes.inPart(found) * terms.parts[p])) {
                    found = p;
                }
            }
            return Math.max(found, 0);
        }

        private int weightOf(int set) {
            int weight = 0;
            for (int p = 0; p < PARTS; p++) {
                weight += (set >> p & 1) == 1 ? terms.parts[Terms.WEIGHT + p] : 0;
            }
            return weight;
        }

        private void settleFactors(int set, long weight) {
            long scale = terms.scale;
            int[] hits = terms.rules;
            int at = 4 * set;
            factors[at] = hits[0] * (100 - weight) * scale * scale * scale;
            factors[at + 1] = (hits[1] * (100 - weight) + hits[0] * weight) * scale * scale;
            factors[at + 2] = (hits[2] * (100 - weight) + hits[1] * weight) * scale;
            factors[at + 3] = hits[3] * 100L + hits[2] * weight;
        }

        private long homesAt(int set, long x) {
            int at = 4 * set;
            return ((factors[at + 3] * x + factors[at + 2]) * x + factors[at + 1]) * x + factors[at];
        }
    }

    /** A SHEET: its CELLS are kept as ints, cut to the lane's bits as they are laid. */
    private static final class Sheet {
        static final int MOST = 48;
        static final int NOTHING = -1;
        static final int NULL = 1;
        static final int INDEX = 2;
        static final int CAST = 3;
        static final int SIZE = 4;

        final int[] cells = new int[MOST];
        int lane = NOTHING;
        int size;

        void renew(int newLane, int newSize) {
            lane = newLane;
            size = newSize;
            for (int i = 0; i < MOST; i++) {
                cells[i] = 0;
            }
        }

        /** The FAULT that a machine finds at a CELL of the SHEET, taken as of a lane; 0. */
        int faultAt(int asLane, int i) {
            if (lane == NOTHING) {
                return NULL;
            }
            if (lane != asLane) {
                return CAST;
            }
            return i < 0 || i >= size ? INDEX : 0;
        }

        int faultOfHome(int asLane, int at) {
            int found = 0;
            for (int p = 0; p < PARTS && found == 0; p++) {
                found = faultAt(asLane, at + p);
            }
            return found;
        }

        boolean isHome(int at) {
            int holes = 0;
            for (int p = 0; p < PARTS; p++) {
                int v = cell(at + p);
                if (v < 0 || v > 3) {
                    return false;
                }
                holes += v;
            }
            return holes <= 3;
        }

        int cell(int i) {
            return i < 0 || i >= MOST ? 0 : cells[i];
        }

        void put(int i, int v) {
            if (i < 0 || i >= MOST) {
                return;
            }
            cells[i] = lane == 0 ? (byte) v : lane == 1 ? (short) v : v;
        }
    }
}
