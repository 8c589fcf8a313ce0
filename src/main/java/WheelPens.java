import java.util.NoSuchElementException;

/**
 * Toothed wheels that roll in and on rings, and on one another, and carry pens. What a pen draws
 * is held exactly, as whole sums of roots of one. ../shared/DOC.md says what each call promises;
 * words in capitals are its terms.
 */
public final class WheelPens {
    public static final int NONE = -1;

    private static final int TAPE_BYTES = 640;
    private static final int FEED_BYTES = 20;
    private static final int KIT_BYTES = 600;
    private static final int MIX_BYTES = 200;
    private static final int SHEETS = 8;
    private static final int LEAST_N = 3;
    private static final int MOST_N = 60;
    /** The greatest p there is for an N of 3 to 60: that of 59. */
    private static final int MOST_P = 58;
    private static final int ROOM = MOST_N * MOST_P;
    private static final long MOST_NUMBER = 1000000L;
    private static final int UNLIKE_SHEETS = -2;
    private static final int BAD_BOX = -2;
    private static final int NO_SHEET = -1000;
    private static final int TOO_GREAT = -2000;
    private static final int MIRRORED = 10000;

    private final Tape tape = new Tape();
    private final KitReader kitReader = new KitReader();
    private final MixReader mixReader = new MixReader();
    private final PenArms penArms = new PenArms();
    private final Sums sums = new Sums();
    private final Orbits orbits = new Orbits();
    private final Told told = new Told();
    private final Box box = new Box();
    private final Sheet[] sheets = new Sheet[SHEETS];
    private final Sheet drawing = new Sheet();
    private final long[] rows = new long[ROOM];
    private Kit kitNow = new Kit();
    private Kit kitSpare = new Kit();
    private int latestFault;

    public WheelPens() {
        for (int i = 0; i < sheets.length; i++) {
            sheets[i] = new Sheet();
        }
    }

    // ---- the tape and the KIT

    public int feed(int a, int b, int c, int d, int e) {
        if (tape.length > TAPE_BYTES - FEED_BYTES) {
            return NONE;
        }
        tape.append(a);
        tape.append(b);
        tape.append(c);
        tape.append(d);
        tape.append(e);
        return tape.length;
    }

    public boolean end(int n) {
        if (n < 0 || n > tape.length) {
            return false;
        }
        tape.length = n;
        return true;
    }

    public int kit() {
        boolean whole = kitReader.read(tape, kitSpare);
        tape.length = 0;
        latestFault = kitReader.fault;
        if (!whole) {
            return -1 - kitReader.faultPlace;
        }
        Kit read = kitSpare;
        kitSpare = kitNow;
        kitNow = read;
        return kitReader.lines;
    }

    public int fault() {
        return latestFault;
    }

    public int spin(int w, int what) throws NoSuchElementException {
        if (w < 0 || w >= kitNow.wheels || what < 0 || what > 1) {
            throw new NoSuchElementException("no such WHEEL or number");
        }
        return what == 0 ? kitNow.spinUp[w] : kitNow.spinLow[w];
    }

    public long closes(int pen) {
        if (!isPen(pen)) {
            return NONE;
        }
        penArms.gather(kitNow, pen);
        return penArms.turnsToClose;
    }

    public int arms(int pen) {
        if (!isPen(pen)) {
            return NONE;
        }
        penArms.gather(kitNow, pen);
        return penArms.size;
    }

    public long arm(int pen, int i, int what) throws NoSuchElementException {
        if (!isPen(pen) || what < 0 || what > 1) {
            throw new NoSuchElementException("no such PEN or number");
        }
        penArms.gather(kitNow, pen);
        if (i < 0 || i >= penArms.size) {
            throw new NoSuchElementException("no such ARM");
        }
        return what == 0 ? penArms.winding[i] : penArms.span[i];
    }

    public long lobes(int pen) {
        if (!isPen(pen)) {
            return NONE;
        }
        penArms.gather(kitNow, pen);
        return penArms.lobeNumber();
    }

    // ---- SHEETS

    public int draw(int sheet, int pen, int n) {
        if (!isSheet(sheet) || !isPen(pen) || n < LEAST_N || n > MOST_N) {
            return NONE;
        }
        drawInto(sheets[sheet], pen, n);
        return sheets[sheet].unlike();
    }

    public int tell(int sheet) {
        int bytes = tape.length;
        tape.length = 0;
        int n = bytes / 2;
        if (!isSheet(sheet) || bytes % 2 != 0 || n < LEAST_N || n > MOST_N) {
            return NONE;
        }
        sums.choose(n);
        for (int k = 0; k < n; k++) {
            sums.clear();
            sums.add(0, tape.signedByte(2 * k));
            sums.add(1, tape.signedByte(2 * k + 1));
            sums.store(rows, k);
        }
        sheets[sheet].fill(n, sums.p, rows);
        return n;
    }

    public int mix(int sheet) {
        int answer = NO_SHEET;
        if (isSheet(sheet)) {
            boolean whole = mixReader.read(tape, sheets);
            latestFault = mixReader.fault;
            answer = whole ? mixInto(sheets[sheet]) : -1 - mixReader.faultPlace;
        }
        tape.length = 0;
        return answer;
    }

    public boolean wipe(int sheet) {
        Sheet s = sheetThatIs(sheet);
        if (s == null) {
            return false;
        }
        s.n = 0;
        return true;
    }

    public int about(int sheet, int what) {
        Sheet s = sheetThatIs(sheet);
        if (s == null) {
            return NONE;
        }
        switch (what) {
            case 0:
                return s.n;
            case 1:
                return s.p;
            case 2:
                return s.unlike();
            case 3:
                return s.mostOften();
            case 4:
                return s.firstAgain();
            default:
                return NONE;
        }
    }

    public long point(int sheet, int k, int i) throws NoSuchElementException {
        Sheet s = sheetThatIs(sheet);
        if (s == null || k < 0 || k >= s.n || i < 0 || i >= s.p) {
            throw new NoSuchElementException("no such SHEET, POINT or number");
        }
        return s.number(k, i);
    }

    public int same(int sheet, int what) {
        Sheet s = sheetThatIs(sheet);
        if (s == null || what < 0 || what > 2) {
            return NONE;
        }
        sums.choose(s.n);
        if (what == 2) {
            return distances(s);
        }
        orbits.begin(sums);
        orbits.placeSheet(sums, s, 0);
        if (what == 0) {
            return orbits.turningsOnto(0);
        }
        orbits.placeMirrored(sums, s, s.n);
        return orbits.turningsOnto(s.n);
    }

    public long area(int sheet, int i) throws NoSuchElementException {
        Sheet s = sheetThatIs(sheet);
        if (s == null || i < 0 || i >= s.p) {
            throw new NoSuchElementException("no such SHEET or number");
        }
        sums.choose(s.n);
        sums.clear();
        for (int k = 0; k < s.n; k++) {
            int next = wrap(k + 1, s.n);
            sums.addMirroredProduct(s, k, next, 1);
            sums.addMirroredProduct(s, next, k, -1);
        }
        sums.reduce();
        return sums.sum[i];
    }

    public int one(int a, int b) {
        Sheet from = sheetThatIs(a);
        Sheet onto = sheetThatIs(b);
        if (from == null || onto == null || from.n != onto.n) {
            return UNLIKE_SHEETS;
        }
        sums.choose(from.n);
        orbits.begin(sums);
        orbits.placeSheet(sums, onto, 0);
        int known = orbits.known;
        orbits.placeSheet(sums, from, from.n);
        int plain = orbits.firstMatch();
        if (plain != NONE) {
            return plain;
        }
        orbits.known = known;
        orbits.placeMirrored(sums, from, from.n);
        int mirrored = orbits.firstMatch();
        return mirrored == NONE ? NONE : MIRRORED + mirrored;
    }

    public int again(int sheet, int what) {
        Sheet s = sheetThatIs(sheet);
        if (s == null || what < 0 || what > 1) {
            return NONE;
        }
        if (what == 0) {
            return s.period();
        }
        sums.choose(s.n);
        orbits.begin(sums);
        orbits.placeSheet(sums, s, 0);
        return orbits.selves();
    }

    public int product(int to, int a, int b) {
        Sheet left = sheetThatIs(a);
        Sheet right = sheetThatIs(b);
        if (!isSheet(to) || left == null || right == null || left.n != right.n) {
            return NONE;
        }
        sums.choose(left.n);
        for (int k = 0; k < left.n; k++) {
            sums.clear();
            sums.addProduct(left, right, k);
            sums.reduce();
            sums.store(rows, k);
        }
        return sheets[to].fillIfWithin(left.n, sums.p, rows) ? sums.n : TOO_GREAT;
    }

    public int shared(int a, int b) {
        Sheet these = sheetThatIs(a);
        Sheet those = sheetThatIs(b);
        if (these == null || those == null || these.n != those.n) {
            return UNLIKE_SHEETS;
        }
        int found = 0;
        for (int k = 0; k < these.n; k++) {
            if (these.firstLike(these, k) == k && those.firstLike(these, k) != NONE) {
                found++;
            }
        }
        return found;
    }

    // ---- ARMS told back, POINTS put right, PENS and wheels that draw a SHEET

    public int back(int sheet) {
        Sheet s = sheetThatIs(sheet);
        if (s == null) {
            return NONE;
        }
        told.readBack(sums, s);
        told.keep();
        return told.kept;
    }

    public long backAt(int i, int what) {
        if (i < 0 || i >= told.kept) {
            return NONE;
        }
        switch (what) {
            case 0:
                return told.keptArm[i];
            case 1:
                return told.keptSpan[i];
            case 2:
                return told.keptPlain[i];
            default:
                return NONE;
        }
    }

    public int right(int sheet) {
        Sheet s = sheetThatIs(sheet);
        if (s == null) {
            return NONE;
        }
        told.readBack(sums, s);
        orbits.begin(sums);
        for (int f = 0; f < s.n; f++) {
            orbits.place(sums, f, told.rows, f * s.p);
        }
        return told.putRight(sums, s, orbits);
    }

    public int wrong() {
        return told.changed;
    }

    public long rightAt(int i) throws NoSuchElementException {
        if (told.changed == NONE || i < 0 || i >= told.changedSize) {
            throw new NoSuchElementException("none is changed, or no such number");
        }
        return told.changedTo[i];
    }

    public int drawnBy(int sheet) {
        Sheet s = sheetThatIs(sheet);
        if (s == null) {
            return NONE;
        }
        sums.choose(s.n);
        orbits.begin(sums);
        orbits.placeSheet(sums, s, 0);
        int known = orbits.known;
        int bits = 0;
        for (int pen = 0; pen < kitNow.pens; pen++) {
            drawInto(drawing, pen, s.n);
            orbits.known = known;
            orbits.placeSheet(sums, drawing, s.n);
            if (orbits.firstMatch() != NONE) {
                bits |= 1 << pen;
            }
        }
        return bits;
    }

    public int made(int sheet, int n) {
        boolean asTold = box.take(tape, n);
        tape.length = 0;
        if (!asTold) {
            return BAD_BOX;
        }
        Sheet s = sheetThatIs(sheet);
        if (s == null) {
            return NONE;
        }
        told.readBack(sums, s);
        if (!told.hasTwoPlain()) {
            return NONE;
        }
        box.findWays(told);
        return box.ways;
    }

    public int madeAt(int k, int what) throws NoSuchElementException {
        if (k < 0 || k >= box.ways || k >= Box.KEPT_WAYS || what < 0 || what > 3) {
            throw new NoSuchElementException("no such way or number");
        }
        switch (what) {
            case 0:
                return box.ringOf[k];
            case 1:
                return box.wheelOf[k];
            case 2:
                return box.onOf[k];
            default:
                return box.outOf[k];
        }
    }

    public int count(int what) {
        switch (what) {
            case 0:
                return kitNow.rings;
            case 1:
                return kitNow.wheels;
            case 2:
                return kitNow.pens;
            case 3:
                return sheetsThatAre();
            case 4:
                return tape.length;
            default:
                return NONE;
        }
    }

    // ---- helpers of the calls

    private boolean isPen(int pen) {
        return pen >= 0 && pen < kitNow.pens;
    }

    private static boolean isSheet(int sheet) {
        return sheet >= 0 && sheet < SHEETS;
    }

    /** The SHEET of that number; null, if there is no such one or it is none. */
    private Sheet sheetThatIs(int sheet) {
        if (!isSheet(sheet)) {
            return null;
        }
        Sheet s = sheets[sheet];
        return s == null || s.n == 0 ? null : s;
    }

    private int sheetsThatAre() {
        int found = 0;
        for (int i = 0; i < SHEETS; i++) {
            if (sheetThatIs(i) != null) {
                found++;
            }
        }
        return found;
    }

    private void drawInto(Sheet to, int pen, int n) {
        penArms.gather(kitNow, pen);
        sums.choose(n);
        for (int k = 0; k < n; k++) {
            sums.clear();
            for (int i = 0; i < penArms.size; i++) {
                int winding = wrapLong(penArms.winding[i], n);
                sums.add(wrap(winding * k, n), penArms.span[i]);
            }
            sums.reduce();
            sums.store(rows, k);
        }
        to.fill(n, sums.p, rows);
    }

    private int mixInto(Sheet to) {
        Sheet first = sheetThatIs(mixReader.sheet[0]);
        if (first == null) {
            return NO_SHEET;
        }
        int n = first.n;
        sums.choose(n);
        for (int k = 0; k < n; k++) {
            sums.clear();
            for (int part = 0; part < mixReader.parts; part++) {
                addPart(part, k);
            }
            sums.reduce();
            sums.store(rows, k);
        }
        return to.fillIfWithin(n, sums.p, rows) ? mixReader.parts : TOO_GREAT;
    }

    private void addPart(int part, int k) {
        Sheet s = sheetThatIs(mixReader.sheet[part]);
        if (s == null) {
            return;
        }
        int from = wrap(mixReader.way[part] * k + mixReader.from[part], s.n);
        int turn = wrap(mixReader.turn[part], s.n);
        for (int i = 0; i < s.p; i++) {
            int power = mixReader.mirrored[part] ? turn - i : turn + i;
            sums.add(wrap(power, s.n), mixReader.times[part] * s.number(from, i));
        }
    }

    private int distances(Sheet s) {
        for (int k = 0; k < s.n; k++) {
            sums.clear();
            sums.addMirroredProduct(s, k, k, 1);
            sums.reduce();
            sums.store(rows, k);
        }
        int unlike = 0;
        for (int k = 0; k < s.n; k++) {
            boolean fresh = true;
            for (int j = 0; j < k && fresh; j++) {
                fresh = !likeRows(rows, j * s.p, rows, k * s.p, s.p);
            }
            if (fresh) {
                unlike++;
            }
        }
        return unlike;
    }

    private static boolean likeRows(long[] a, int aAt, long[] b, int bAt, int size) {
        if (aAt < 0 || bAt < 0 || aAt + size > a.length || bAt + size > b.length) {
            return false;
        }
        for (int i = 0; i < size; i++) {
            if (a[aAt + i] != b[bAt + i]) {
                return false;
            }
        }
        return true;
    }

    /** x, brought by whole n into 0 to n - 1. */
    private static int wrap(int x, int n) {
        return n < 1 ? 0 : Math.floorMod(x, n);
    }

    private static int wrapLong(long x, int n) {
        return n < 1 ? 0 : (int) Math.floorMod(x, (long) n);
    }

    /** The greatest divisor in common; Euclid's steps for numbers of 63 bits are fewer than 100. */
    private static long commonDivisor(long a, long b) {
        long x = a < 0 ? -a : a;
        long y = b < 0 ? -b : b;
        for (int step = 0; step < 100 && y != 0; step++) {
            long rest = x % y;
            x = y;
            y = rest;
        }
        return x;
    }

    /** The bytes that were fed, and a reader of TOKENS that goes along them. */
    private static final class Tape {
        static final int END = 0;
        static final int NO_TOKEN = 1;
        static final int WORD = 2;
        static final int NUMBER = 3;
        static final int SIGN = 4;
        private static final int LONGEST_WORD = 6;
        private static final int LONGEST_NUMBER = 3;

        private final int[] bytes = new int[TAPE_BYTES];
        int length;
        private int stop;
        private int next;
        /** Of the TOKEN read last: its kind, the place of its first byte, and its value: what a
            NUMBER is, a WORD's letters as one number, a sign's byte. */
        int kind;
        int place;
        int value;

        void append(int number) {
            for (int shift = 24; shift >= 0; shift -= 8) {
                if (length >= 0 && length < TAPE_BYTES) {
                    bytes[length] = (number >>> shift) & 255;
                    length++;
                }
            }
        }

        /** A byte, 0 to 255; 0 where there is no such place. */
        int byteAt(int i) {
            return i < 0 || i >= TAPE_BYTES ? 0 : bytes[i];
        }

        int signedByte(int i) {
            int b = byteAt(i);
            return b > 127 ? b - 256 : b;
        }

        /** Goes to the first TOKEN; those that begin at the limit or behind it are not read. */
        void open(int limit) {
            stop = length < limit ? length : limit;
            next = 0;
            advance();
        }

        boolean isCut() {
            return length > stop;
        }

        void advance() {
            while (next < stop && isBlank(byteAt(next))) {
                next++;
            }
            if (next >= stop) {
                kind = END;
                place = stop;
                return;
            }
            place = next;
            if (isLetter(byteAt(next)) || isDigit(byteAt(next))) {
                readRun();
            } else {
                readSign();
            }
        }

        private void readRun() {
            int letters = 0;
            int digits = 0;
            int code = 0;
            int number = 0;
            while (next < length && (isLetter(byteAt(next)) || isDigit(byteAt(next)))) {
                int b = byteAt(next);
                if (isLetter(b)) {
                    letters++;
                    code = code * 32 + b - 'a' + 1;
                } else {
                    digits++;
                    number = number * 10 + b - '0';
                }
                next++;
            }
            if (digits == 0 && letters <= LONGEST_WORD) {
                kind = WORD;
                value = code;
            } else if (letters == 0 && digits <= LONGEST_NUMBER) {
                kind = NUMBER;
                value = number;
            } else {
                kind = NO_TOKEN;
            }
        }

        private void readSign() {
            value = byteAt(next);
            next++;
            boolean known = value == ';' || value == '/' || value == '-' || value == '+';
            kind = known ? SIGN : NO_TOKEN;
        }

        boolean isWord(String word) {
            if (kind != WORD || next - place != word.length()) {
                return false;
            }
            for (int i = 0; i < word.length(); i++) {
                if (byteAt(place + i) != word.charAt(i)) {
                    return false;
                }
            }
            return true;
        }

        boolean isSign(char sign) {
            return kind == SIGN && value == sign;
        }

        private static boolean isBlank(int b) {
            return b == 32 || b == 10;
        }

        private static boolean isLetter(int b) {
            return b >= 'a' && b <= 'z';
        }

        private static boolean isDigit(int b) {
            return b >= '0' && b <= '9';
        }
    }

    /** RINGS, WHEELS and PENS, and the NAMES by which a text told them. */
    private static final class Kit {
        static final int RING = 0;
        static final int WHEEL = 1;
        static final int PEN = 2;
        static final int MOST_RINGS = 4;
        static final int MOST_WHEELS = 12;
        static final int MOST_PENS = 8;
        static final int MOST_LINES = MOST_RINGS + MOST_WHEELS + MOST_PENS;

        int rings;
        int wheels;
        int pens;
        private int names;
        private final int[] name = new int[MOST_LINES];
        final int[] sortOf = new int[MOST_LINES];
        final int[] numberOf = new int[MOST_LINES];
        final int[] ringTeeth = new int[MOST_RINGS];
        final int[] wheelTeeth = new int[MOST_WHEELS];
        /** The WHEEL that is the BASE; NONE, if that is a RING. */
        final int[] wheelBase = new int[MOST_WHEELS];
        /** How many WHEELS there are from the RING up to this one, it too. */
        final int[] height = new int[MOST_WHEELS];
        final int[] armSpan = new int[MOST_WHEELS];
        final int[] armUp = new int[MOST_WHEELS];
        final int[] armLow = new int[MOST_WHEELS];
        final int[] spinUp = new int[MOST_WHEELS];
        final int[] spinLow = new int[MOST_WHEELS];
        final int[] penWheel = new int[MOST_PENS];
        final int[] penOut = new int[MOST_PENS];

        void clear() {
            rings = 0;
            wheels = 0;
            pens = 0;
            names = 0;
        }

        /** The entry of a NAME; NONE, if it is not told. */
        int entryOf(int code) {
            for (int i = 0; i < names; i++) {
                if (name[i] == code) {
                    return i;
                }
            }
            return NONE;
        }

        private void addName(int code, int sort, int number) {
            if (names < MOST_LINES) {
                name[names] = code;
                sortOf[names] = sort;
                numberOf[names] = number;
                names++;
            }
        }

        void addRing(int code, int teeth) {
            if (rings < MOST_RINGS) {
                addName(code, RING, rings);
                ringTeeth[rings] = teeth;
                rings++;
            }
        }

        void addWheel(int code, WheelLine line) {
            if (wheels < MOST_WHEELS) {
                addName(code, WHEEL, wheels);
                wheelTeeth[wheels] = line.teeth;
                wheelBase[wheels] = line.baseWheel;
                height[wheels] = line.height;
                armSpan[wheels] = line.inside ? line.baseTeeth - line.teeth : line.baseTeeth + line.teeth;
                armUp[wheels] = line.armUp;
                armLow[wheels] = line.armLow;
                spinUp[wheels] = (int) line.spinUp;
                spinLow[wheels] = (int) line.spinLow;
                wheels++;
            }
        }

        void addPen(int code, int wheel, int out) {
            if (pens < MOST_PENS) {
                addName(code, PEN, pens);
                penWheel[pens] = wheel;
                penOut[pens] = out;
                pens++;
            }
        }
    }

    /** What a LINE tells of a WHEEL, gathered while it is read. */
    private static final class WheelLine {
        private static final int MOST_IN_SPIN = 9999;

        int teeth;
        boolean inside;
        int baseWheel;
        int baseTeeth;
        int height;
        private int baseUp;
        private int baseLow;
        int armUp;
        int armLow;
        long spinUp;
        long spinLow;

        void stand(Kit kit, int entry) {
            int number = kit.numberOf[entry];
            if (kit.sortOf[entry] == Kit.RING) {
                baseWheel = NONE;
                baseTeeth = kit.ringTeeth[number];
                height = 1;
                baseUp = 0;
                baseLow = 1;
            } else {
                baseWheel = number;
                baseTeeth = kit.wheelTeeth[number];
                height = kit.height[number] + 1;
                baseUp = kit.spinUp[number];
                baseLow = kit.spinLow[number];
            }
        }

        void turnAt(int up, int low) {
            int divisor = (int) commonDivisor(up, low);
            armUp = divisor < 1 ? up : up / divisor;
            armLow = divisor < 1 ? low : low / divisor;
        }

        /** Works out the SPIN in least numbers: whether both are small enough. */
        boolean findSpin() {
            long low = (long) armLow * baseLow * teeth;
            long rolled = ((long) baseUp * armLow - (long) armUp * baseLow) * baseTeeth;
            long swung = (long) armUp * baseLow * teeth;
            long up = inside ? swung + rolled : swung - rolled;
            long divisor = commonDivisor(up, low);
            spinUp = divisor < 1 ? up : up / divisor;
            spinLow = divisor < 1 ? low : low / divisor;
            return spinUp <= MOST_IN_SPIN && spinUp >= -MOST_IN_SPIN && spinLow <= MOST_IN_SPIN;
        }
    }

    /** Reads a KIT's text from the tape. */
    private static final class KitReader {
        private static final int MOST_HEIGHT = 4;
        private static final int MOST_TEETH = 200;
        private static final int LEAST_TEETH = 3;
        private static final int MOST_OUT = 200;
        private static final int MOST_IN_AT = 99;

        private final WheelLine wheel = new WheelLine();
        int fault;
        int faultPlace;
        int lines;

        /** Fills the KIT: whether the text has no FAULT. */
        boolean read(Tape tape, Kit kit) {
            kit.clear();
            fault = 0;
            lines = 0;
            tape.open(KIT_BYTES);
            for (int i = 0; i <= Kit.MOST_LINES && tape.kind != Tape.END; i++) {
                boolean whole;
                if (tape.isWord("ring")) {
                    whole = readRing(tape, kit);
                } else if (tape.isWord("wheel")) {
                    whole = readWheel(tape, kit);
                } else {
                    whole = tape.isWord("pen") ? readPen(tape, kit) : fail(tape, 1);
                }
                if (!whole) {
                    return false;
                }
                lines++;
            }
            return !tape.isCut() || fail(tape, 1);
        }

        private boolean fail(Tape tape, int kind) {
            fault = kind;
            faultPlace = tape.place;
            return false;
        }

        private boolean readRing(Tape tape, Kit kit) {
            if (kit.rings >= Kit.MOST_RINGS) {
                return fail(tape, 4);
            }
            tape.advance();
            int name = tape.value;
            if (!passNewName(tape, kit)) {
                return false;
            }
            int teeth = tape.value;
            if (!passNumber(tape, LEAST_TEETH, MOST_TEETH) || !passSign(tape, ';')) {
                return false;
            }
            kit.addRing(name, teeth);
            return true;
        }

        private boolean readWheel(Tape tape, Kit kit) {
            if (kit.wheels >= Kit.MOST_WHEELS) {
                return fail(tape, 4);
            }
            tape.advance();
            int name = tape.value;
            if (!passNewName(tape, kit)) {
                return false;
            }
            wheel.teeth = tape.value;
            if (!passNumber(tape, LEAST_TEETH, MOST_TEETH) || !passInOrOn(tape) || !passBase(tape, kit)) {
                return false;
            }
            wheel.turnAt(1, 1);
            if (tape.isWord("at") && !passAt(tape)) {
                return false;
            }
            if (!tape.isSign(';')) {
                return fail(tape, 1);
            }
            if (!wheel.findSpin()) {
                return fail(tape, 5);
            }
            tape.advance();
            kit.addWheel(name, wheel);
            return true;
        }

        private boolean readPen(Tape tape, Kit kit) {
            if (kit.pens >= Kit.MOST_PENS) {
                return fail(tape, 4);
            }
            tape.advance();
            int name = tape.value;
            if (!passNewName(tape, kit)) {
                return false;
            }
            if (!isName(tape)) {
                return fail(tape, 1);
            }
            int entry = kit.entryOf(tape.value);
            if (entry == NONE || kit.sortOf[entry] != Kit.WHEEL) {
                return fail(tape, 3);
            }
            tape.advance();
            boolean below = passMinus(tape);
            int out = tape.value;
            if (!passNumber(tape, 0, MOST_OUT) || !passSign(tape, ';')) {
                return false;
            }
            kit.addPen(name, kit.numberOf[entry], below ? -out : out);
            return true;
        }

        private static boolean isName(Tape tape) {
            return tape.kind == Tape.WORD && !tape.isWord("ring") && !tape.isWord("wheel")
                && !tape.isWord("pen") && !tape.isWord("in") && !tape.isWord("on") && !tape.isWord("at");
        }

        private boolean passNewName(Tape tape, Kit kit) {
            if (!isName(tape)) {
                return fail(tape, 1);
            }
            if (kit.entryOf(tape.value) != NONE) {
                return fail(tape, 3);
            }
            tape.advance();
            return true;
        }

        private boolean passNumber(Tape tape, int least, int most) {
            if (tape.kind != Tape.NUMBER) {
                return fail(tape, 1);
            }
            if (tape.value < least || tape.value > most) {
                return fail(tape, 2);
            }
            tape.advance();
            return true;
        }

        private boolean passSign(Tape tape, char sign) {
            if (!tape.isSign(sign)) {
                return fail(tape, 1);
            }
            tape.advance();
            return true;
        }

        /** Whether there is a - here; if so, it is passed. */
        private static boolean passMinus(Tape tape) {
            if (!tape.isSign('-')) {
                return false;
            }
            tape.advance();
            return true;
        }

        private boolean passInOrOn(Tape tape) {
            wheel.inside = tape.isWord("in");
            if (!wheel.inside && !tape.isWord("on")) {
                return fail(tape, 1);
            }
            tape.advance();
            return true;
        }

        private boolean passBase(Tape tape, Kit kit) {
            if (!isName(tape)) {
                return fail(tape, 1);
            }
            int entry = kit.entryOf(tape.value);
            if (entry == NONE || kit.sortOf[entry] == Kit.PEN) {
                return fail(tape, 3);
            }
            wheel.stand(kit, entry);
            if (wheel.inside && wheel.teeth >= wheel.baseTeeth) {
                return fail(tape, 2);
            }
            if (wheel.height > MOST_HEIGHT) {
                return fail(tape, 4);
            }
            tape.advance();
            return true;
        }

        private boolean passAt(Tape tape) {
            tape.advance();
            boolean below = passMinus(tape);
            int up = tape.value;
            if (!passNumber(tape, 0, MOST_IN_AT) || !passSign(tape, '/')) {
                return false;
            }
            int low = tape.value;
            if (!passNumber(tape, 1, MOST_IN_AT)) {
                return false;
            }
            wheel.turnAt(below ? -up : up, low);
            return true;
        }
    }

    /** Reads a MIX from the tape, each PART's changes brought together: POINT k of a PART is
        times z^turn times POINT way k + from of its SHEET, which is MIRRORED if so told. */
    private static final class MixReader {
        private static final int MOST_PARTS = 12;

        int fault;
        int faultPlace;
        int parts;
        final int[] sheet = new int[MOST_PARTS];
        final int[] times = new int[MOST_PARTS];
        final int[] turn = new int[MOST_PARTS];
        final int[] from = new int[MOST_PARTS];
        final int[] way = new int[MOST_PARTS];
        final boolean[] mirrored = new boolean[MOST_PARTS];

        /** Whether the text has no FAULT. */
        boolean read(Tape tape, Sheet[] sheets) {
            fault = 0;
            parts = 0;
            tape.open(MIX_BYTES);
            int sign = 1;
            if (isAnySign(tape)) {
                sign = tape.isSign('-') ? -1 : 1;
                tape.advance();
            }
            for (int i = 0; i < MOST_PARTS; i++) {
                if (!readPart(tape, sheets, sign)) {
                    return false;
                }
                if (tape.kind == Tape.END) {
                    return !tape.isCut() || fail(tape, 1);
                }
                if (!isAnySign(tape)) {
                    return fail(tape, 1);
                }
                if (parts == MOST_PARTS) {
                    return fail(tape, 2);
                }
                sign = tape.isSign('-') ? -1 : 1;
                tape.advance();
            }
            return fail(tape, 2);
        }

        private static boolean isAnySign(Tape tape) {
            return tape.isSign('+') || tape.isSign('-');
        }

        private boolean fail(Tape tape, int kind) {
            fault = kind;
            faultPlace = tape.place;
            return false;
        }

        private boolean readPart(Tape tape, Sheet[] sheets, int sign) {
            int number = 1;
            if (tape.kind == Tape.NUMBER) {
                number = tape.value;
                tape.advance();
            }
            int letter = tape.value - 1;
            if (tape.kind != Tape.WORD || letter < 0 || letter >= SHEETS) {
                return fail(tape, 1);
            }
            int n = sheets[letter].n;
            if (n == 0 || parts > 0 && n != sheets[sheet[0]].n) {
                return fail(tape, 3);
            }
            tape.advance();
            sheet[parts] = letter;
            times[parts] = sign * number;
            turn[parts] = 0;
            from[parts] = 0;
            way[parts] = 1;
            mirrored[parts] = false;
            boolean whole = readChanges(tape);
            parts++;
            return whole;
        }

        private boolean readChanges(Tape tape) {
            for (int i = 0; i < MIX_BYTES && tape.kind == Tape.WORD; i++) {
                boolean turns = tape.isWord("turn");
                if (tape.isWord("mirror")) {
                    mirrored[parts] = !mirrored[parts];
                    turn[parts] = -turn[parts];
                } else if (tape.isWord("back")) {
                    way[parts] = -way[parts];
                } else if (turns || tape.isWord("from")) {
                    tape.advance();
                    if (tape.kind != Tape.NUMBER) {
                        return fail(tape, 1);
                    }
                    turn[parts] += turns ? tape.value : 0;
                    from[parts] += turns ? 0 : way[parts] * tape.value;
                } else {
                    return fail(tape, 1);
                }
                tape.advance();
            }
            return true;
        }
    }

    /** The ARMS of a PEN, by rising WINDINGS. */
    private static final class PenArms {
        private static final int MOST_ARMS = KitReader.MOST_HEIGHT + 1;

        int size;
        long turnsToClose;
        private final long[] up = new long[MOST_ARMS];
        private final long[] low = new long[MOST_ARMS];
        final long[] span = new long[MOST_ARMS];
        final long[] winding = new long[MOST_ARMS];

        void gather(Kit kit, int pen) {
            size = 0;
            turnsToClose = 1;
            if (pen < 0 || pen >= kit.pens) {
                return;
            }
            int wheel = kit.penWheel[pen];
            join(kit.spinUp[wheel], kit.spinLow[wheel], kit.penOut[pen]);
            for (int i = 0; i < KitReader.MOST_HEIGHT && wheel != NONE; i++) {
                join(kit.armUp[wheel], kit.armLow[wheel], kit.armSpan[wheel]);
                wheel = kit.wheelBase[wheel];
            }
            dropEmpty();
            findWindings();
            sortByWinding();
        }

        private void join(long speedUp, long speedLow, long length) {
            for (int i = 0; i < size; i++) {
                if (up[i] == speedUp && low[i] == speedLow) {
                    span[i] += length;
                    return;
                }
            }
            if (size < MOST_ARMS) {
                up[size] = speedUp;
                low[size] = speedLow;
                span[size] = length;
                size++;
            }
        }

        private void dropEmpty() {
            int left = 0;
            for (int i = 0; i < size; i++) {
                if (span[i] != 0) {
                    up[left] = up[i];
                    low[left] = low[i];
                    span[left] = span[i];
                    left++;
                }
            }
            size = left;
        }

        private void findWindings() {
            for (int i = 0; i < size; i++) {
                long divisor = commonDivisor(turnsToClose, low[i]);
                turnsToClose *= divisor < 1 ? 1 : low[i] / divisor;
            }
            for (int i = 0; i < size; i++) {
                winding[i] = low[i] < 1 ? 0 : turnsToClose / low[i] * up[i];
            }
        }

        private void sortByWinding() {
            for (int i = 1; i < size; i++) {
                for (int j = i; j > 0 && winding[j] < winding[j - 1]; j--) {
                    long w = winding[j];
                    winding[j] = winding[j - 1];
                    winding[j - 1] = w;
                    long s = span[j];
                    span[j] = span[j - 1];
                    span[j - 1] = s;
                }
            }
        }

        long lobeNumber() {
            long divisor = 0;
            for (int i = 1; i < size; i++) {
                divisor = commonDivisor(divisor, winding[i] - winding[i - 1]);
            }
            return divisor;
        }
    }

    /** A row of N POINTS, each of p numbers; none, if n is 0. */
    private static final class Sheet {
        int n;
        int p;
        /** Made once, when the SHEET is first filled: most objects use few SHEETS. */
        private int[] numbers = new int[0];

        long number(int k, int i) {
            int at = k * p + i;
            return at < 0 || at >= numbers.length ? 0 : numbers[at];
        }

        void fill(int newN, int newP, long[] rows) {
            if (numbers.length < ROOM) {
                numbers = new int[ROOM];
            }
            n = newN;
            p = newP;
            for (int i = 0; i < n * p && i < ROOM && i < rows.length; i++) {
                numbers[i] = (int) rows[i];
            }
        }

        /** Fills it, if no number is too great: whether it did. */
        boolean fillIfWithin(int newN, int newP, long[] rows) {
            for (int i = 0; i < newN * newP && i < rows.length; i++) {
                if (rows[i] > MOST_NUMBER || rows[i] < -MOST_NUMBER) {
                    return false;
                }
            }
            fill(newN, newP, rows);
            return true;
        }

        /** The least k with a POINT that is POINT j of another SHEET of the same N; else NONE. */
        int firstLike(Sheet other, int j) {
            for (int k = 0; k < n; k++) {
                if (isLike(k, other, j)) {
                    return k;
                }
            }
            return NONE;
        }

        private boolean isLike(int k, Sheet other, int j) {
            for (int i = 0; i < p; i++) {
                if (number(k, i) != other.number(j, i)) {
                    return false;
                }
            }
            return true;
        }

        int unlike() {
            int found = 0;
            for (int k = 0; k < n; k++) {
                if (firstLike(this, k) == k) {
                    found++;
                }
            }
            return found;
        }

        int mostOften() {
            int most = 0;
            for (int k = 0; k < n; k++) {
                int often = 0;
                for (int j = 0; j < n; j++) {
                    if (isLike(j, this, k)) {
                        often++;
                    }
                }
                most = often > most ? often : most;
            }
            return most;
        }

        int firstAgain() {
            for (int k = 0; k < n; k++) {
                if (firstLike(this, k) < k) {
                    return k;
                }
            }
            return NONE;
        }

        int period() {
            for (int m = 1; m < n; m++) {
                if (comesRound(m)) {
                    return m;
                }
            }
            return n;
        }

        private boolean comesRound(int m) {
            for (int k = 0; k < n; k++) {
                if (!isLike(k, this, wrap(k + m, n))) {
                    return false;
                }
            }
            return true;
        }
    }

    /** WHOLE SUMS for one N: a sum is gathered by all N powers of z and then reduced to p. */
    private static final class Sums {
        int n;
        int p;
        /** The polynomial of all first roots, by rising powers; that of p is 1. */
        private final long[] least = new long[MOST_P + 1];
        final long[] sum = new long[MOST_N];

        void choose(int newN) {
            if (newN == n || newN < LEAST_N || newN > MOST_N) {
                return;
            }
            n = newN;
            p = 0;
            for (int i = 1; i <= n; i++) {
                if (commonDivisor(i, n) == 1) {
                    p++;
                }
            }
            findLeast();
        }

        /** The polynomial is the product over all divisors d of N of 1 - x^d, each to the power
            that Moebius gives for N / d; as a row of powers it may be cut behind p. */
        private void findLeast() {
            for (int i = 0; i <= MOST_P; i++) {
                least[i] = i == 0 ? 1 : 0;
            }
            for (int d = 1; d <= n; d++) {
                int power = n % d == 0 ? moebius(n / d) : 0;
                if (power > 0) {
                    for (int i = p; i >= d; i--) {
                        least[i] -= least[i - d];
                    }
                } else if (power < 0) {
                    for (int i = d; i <= p; i++) {
                        least[i] += least[i - d];
                    }
                }
            }
        }

        private static int moebius(int number) {
            int left = number;
            int sign = 1;
            for (int q = 2; q <= number; q++) {
                if (left % q == 0) {
                    left /= q;
                    sign = left % q == 0 ? 0 : -sign;
                }
                if (sign == 0) {
                    return 0;
                }
            }
            return sign;
        }

        void clear() {
            for (int i = 0; i < MOST_N; i++) {
                sum[i] = 0;
            }
        }

        void add(int power, long amount) {
            if (power >= 0 && power < MOST_N) {
                sum[power] += amount;
            }
        }

        void reduce() {
            for (int top = n - 1; top >= p; top--) {
                long amount = sum[top];
                for (int i = 0; i <= p && amount != 0; i++) {
                    sum[top - p + i] -= amount * least[i];
                }
            }
        }

        /** Puts the sum, which has been reduced, as row k. */
        void store(long[] rows, int k) {
            for (int i = 0; i < p; i++) {
                if (k >= 0 && k * p + i < rows.length) {
                    rows[k * p + i] = sum[i];
                }
            }
        }

        /** Adds z^power (0 to N - 1) times POINT k of a SHEET. */
        void addTurned(Sheet s, int k, int power) {
            int[] numbers = s.numbers;
            int start = k * p;
            if (k < 0 || start + p > numbers.length || power < 0 || power >= n) {
                return;
            }
            int ahead = n - power < p ? n - power : p;
            for (int i = 0; i < ahead; i++) {
                sum[power + i] += numbers[start + i];
            }
            for (int i = ahead; i < p; i++) {
                sum[power + i - n] += numbers[start + i];
            }
        }

        /** A reduced row times z. */
        void turnOnce(long[] row) {
            if (p < 1 || p > row.length) {
                return;
            }
            long top = row[p - 1];
            for (int i = p - 1; i > 0; i--) {
                row[i] = row[i - 1] - top * least[i];
            }
            row[0] = -top * least[0];
        }

        /** Adds POINT k of one SHEET times POINT k of another one. */
        void addProduct(Sheet a, Sheet b, int k) {
            for (int i = 0; i < p; i++) {
                long amount = a.number(k, i);
                for (int j = 0; j < p && amount != 0; j++) {
                    add(i + j >= n ? i + j - n : i + j, amount * b.number(k, j));
                }
            }
        }

        /** Adds, sign times, MIRRORED POINT k of a SHEET times its POINT l. */
        void addMirroredProduct(Sheet s, int k, int l, int sign) {
            for (int i = 0; i < p; i++) {
                long amount = sign * s.number(k, i);
                for (int j = 0; j < p && amount != 0; j++) {
                    add(j < i ? j - i + n : j - i, amount * s.number(l, j));
                }
            }
        }
    }

    /**
     * Rows told apart but for a turning. Of all rows z^t times a row, the least one (number by
     * number) stands for them: a slot holds which one that is (kind 0 for a row of noughts) and
     * with which turn it is the row. A row that is not 0 has just one such turn, so two slots are
     * alike, but for a turning, by their kinds, and exactly, by kinds and turns.
     */
    private static final class Orbits {
        private static final int SLOTS = 2 * MOST_N;

        private int n;
        private int p;
        private final long[] leasts = new long[SLOTS * MOST_P];
        private final long[] row = new long[MOST_P];
        private final long[] turned = new long[MOST_P];
        private final long[] least = new long[MOST_P];
        final int[] kinds = new int[SLOTS];
        final int[] turns = new int[SLOTS];
        int known;

        void begin(Sums sums) {
            n = sums.n;
            p = sums.p;
            known = 0;
        }

        void placeSheet(Sums sums, Sheet s, int slot) {
            for (int k = 0; k < s.n; k++) {
                for (int i = 0; i < s.p; i++) {
                    row[i] = s.number(k, i);
                }
                place(sums, slot + k, row, 0);
            }
        }

        void placeMirrored(Sums sums, Sheet s, int slot) {
            for (int k = 0; k < s.n; k++) {
                sums.clear();
                for (int i = 0; i < s.p; i++) {
                    sums.add(i == 0 ? 0 : s.n - i, s.number(k, i));
                }
                sums.reduce();
                sums.store(row, 0);
                place(sums, slot + k, row, 0);
            }
        }

        /** Puts into a slot the row of p numbers that begins at a place of an array. */
        void place(Sums sums, int slot, long[] from, int at) {
            if (slot < 0 || slot >= SLOTS || at < 0 || at + p > from.length) {
                return;
            }
            boolean empty = true;
            for (int i = 0; i < p; i++) {
                turned[i] = from[at + i];
                least[i] = turned[i];
                empty = empty && turned[i] == 0;
            }
            kinds[slot] = 0;
            turns[slot] = 0;
            if (!empty) {
                int turn = turnToLeast(sums);
                kinds[slot] = kindOfLeast();
                turns[slot] = wrap(-turn, n);
            }
        }

        private int turnToLeast(Sums sums) {
            int best = 0;
            for (int t = 1; t < n; t++) {
                sums.turnOnce(turned);
                if (turnedIsLess()) {
                    best = t;
                    for (int i = 0; i < p; i++) {
                        least[i] = turned[i];
                    }
                }
            }
            return best;
        }

        private boolean turnedIsLess() {
            for (int i = 0; i < p; i++) {
                if (turned[i] != least[i]) {
                    return turned[i] < least[i];
                }
            }
            return false;
        }

        private int kindOfLeast() {
            for (int kind = 0; kind < known; kind++) {
                if (likeRows(leasts, kind * p, least, 0, p)) {
                    return kind + 1;
                }
            }
            if (known < SLOTS) {
                for (int i = 0; i < p; i++) {
                    leasts[known * p + i] = least[i];
                }
                known++;
            }
            return known;
        }

        /** Whether slot a is z^turn times slot b. */
        boolean isTurned(int a, int b, int turn) {
            return kinds[a] == kinds[b]
                && (kinds[a] == 0 || turns[a] == wrap(turns[b] + turn, n));
        }

        /** With how many n the N slots from one on, times z^n, are the set of the first N slots. */
        int turningsOnto(int from) {
            int found = 0;
            for (int turn = 0; turn < n; turn++) {
                boolean all = true;
                for (int k = 0; k < n && all; k++) {
                    all = isAmongFirst(from + k, turn);
                }
                if (all) {
                    found++;
                }
            }
            return found;
        }

        private boolean isAmongFirst(int slot, int turn) {
            for (int k = 0; k < n; k++) {
                if (isTurned(k, slot, turn)) {
                    return true;
                }
            }
            return false;
        }

        /** ONE, of the second N slots (a) with the first N (b): 100 n and m; else NONE. */
        int firstMatch() {
            for (int turn = 0; turn < n; turn++) {
                for (int m = 0; m < n; m++) {
                    if (matches(n, turn, m)) {
                        return 100 * turn + m;
                    }
                }
            }
            return NONE;
        }

        int selves() {
            int found = 0;
            for (int turn = 0; turn < n; turn++) {
                for (int m = 0; m < n; m++) {
                    if (matches(0, turn, m)) {
                        found++;
                    }
                }
            }
            return found;
        }

        private boolean matches(int from, int turn, int m) {
            for (int k = 0; k < n; k++) {
                int later = k + m < n ? k + m : k + m - n;
                if (!isTurned(k, from + later, turn)) {
                    return false;
                }
            }
            return true;
        }
    }

    /** The ARMS of a SHEET, told back from its POINTS; those of the latest back(); and what the
        latest right() put right. */
    private static final class Told {
        int n;
        private int p;
        final long[] rows = new long[ROOM];
        int kept;
        final int[] keptArm = new int[MOST_N];
        final long[] keptSpan = new long[MOST_N];
        final int[] keptPlain = new int[MOST_N];
        int changed = NONE;
        int changedSize;
        final long[] changedTo = new long[MOST_P];
        private int most;
        private int mostArm;

        void readBack(Sums sums, Sheet s) {
            sums.choose(s.n);
            n = s.n;
            p = s.p;
            for (int f = 0; f < n; f++) {
                sums.clear();
                for (int k = 0; k < n; k++) {
                    sums.addTurned(s, k, wrap(-f * k, n));
                }
                sums.reduce();
                sums.store(rows, f);
            }
        }

        boolean isThere(int f) {
            return rows[f * p] != 0 || !isWhole(f);
        }

        /** Whether all numbers of ARM f but the first one are 0. */
        private boolean isWhole(int f) {
            for (int i = 1; i < p; i++) {
                if (rows[f * p + i] != 0) {
                    return false;
                }
            }
            return true;
        }

        boolean isPlain(int f) {
            return isWhole(f) && n > 0 && rows[f * p] % n == 0;
        }

        long spanOf(int f) {
            return isPlain(f) ? rows[f * p] / n : 0;
        }

        /** The first f, from one on, that is there; N, if there is none. */
        int nextThere(int from) {
            for (int f = from; f < n; f++) {
                if (isThere(f)) {
                    return f;
                }
            }
            return n;
        }

        boolean hasTwoPlain() {
            int f = nextThere(0);
            int g = nextThere(f + 1);
            return g < n && nextThere(g + 1) >= n && isPlain(f) && isPlain(g);
        }

        void keep() {
            kept = 0;
            for (int f = 0; f < n; f++) {
                if (isThere(f)) {
                    keptArm[kept] = f;
                    keptSpan[kept] = spanOf(f);
                    keptPlain[kept] = isPlain(f) ? 1 : 0;
                    kept++;
                }
            }
        }

        /**
         * Puts the SHEET right that has just been told back, its ARMS being in the first N slots of
         * the orbits: how many are there then. To change POINT k by D adds D z^(-f k) to ARM f, so
         * those ARMS go for which A(f) z^(f k) is -D: the most that are alike are looked for.
         */
        int putRight(Sums sums, Sheet s, Orbits orbits) {
            changed = NONE;
            int gone = 0;
            for (int f = 0; f < n; f++) {
                gone += orbits.kinds[f] == 0 ? 1 : 0;
            }
            int arm = 0;
            for (int k = 0; k < n; k++) {
                findMostAlike(orbits, k);
                if (most > gone) {
                    gone = most;
                    arm = mostArm;
                    changed = k;
                }
            }
            if (changed != NONE) {
                setInPlace(sums, s, arm);
            }
            return n - gone;
        }

        private void findMostAlike(Orbits orbits, int k) {
            most = 0;
            for (int f = 0; f < n; f++) {
                int alike = 0;
                for (int g = 0; g < n && orbits.kinds[f] != 0; g++) {
                    if (orbits.isTurned(f, g, (g - f) * k)) {
                        alike++;
                    }
                }
                if (alike > most) {
                    most = alike;
                    mostArm = f;
                }
            }
        }

        private void setInPlace(Sums sums, Sheet s, int f) {
            sums.clear();
            for (int i = 0; i < p; i++) {
                sums.add(i, s.number(changed, i));
                sums.add(wrap(i + f * changed, n), -rows[f * p + i]);
            }
            sums.reduce();
            sums.store(changedTo, 0);
            changedSize = p;
        }
    }

    /** Rings and wheels by TEETH, and the ways in which the latest made() found a SHEET is MADE. */
    private static final class Box {
        static final int KEPT_WAYS = 40;
        private static final int MOST_OF_SORT = 12;
        private static final int MOST_OUT = 200;

        private int rings;
        private int wheels;
        private final int[] ring = new int[MOST_OF_SORT];
        private final int[] wheel = new int[MOST_OF_SORT];
        int ways;
        final int[] ringOf = new int[KEPT_WAYS];
        final int[] wheelOf = new int[KEPT_WAYS];
        final int[] onOf = new int[KEPT_WAYS];
        final int[] outOf = new int[KEPT_WAYS];

        /** Takes n rings and then wheels from the tape: whether it is as told. */
        boolean take(Tape tape, int n) {
            if (n < 1 || n > MOST_OF_SORT || tape.length - n < 1 || tape.length - n > MOST_OF_SORT) {
                return false;
            }
            rings = n;
            wheels = tape.length - n;
            for (int i = 0; i < tape.length; i++) {
                int teeth = tape.byteAt(i);
                if (teeth < KitReader.LEAST_TEETH || teeth > KitReader.MOST_TEETH) {
                    return false;
                }
                if (i < n) {
                    ring[i] = teeth;
                } else {
                    wheel[i - n] = teeth;
                }
            }
            return true;
        }

        void findWays(Told told) {
            ways = 0;
            for (int r = 0; r < rings; r++) {
                for (int w = 0; w < wheels; w++) {
                    if (wheel[w] < ring[r]) {
                        tryWay(told, r, w, 0);
                    }
                    tryWay(told, r, w, 1);
                }
            }
        }

        /** Turning at 1, the ARM's WINDING is how often the PEN has to go round till it CLOSES; as
            both ARMS of the SHEET are told, there is one OUT at most. */
        private void tryWay(Told told, int r, int w, int on) {
            int teeth = wheel[w];
            int up = on == 0 ? teeth - ring[r] : teeth + ring[r];
            int divisor = (int) commonDivisor(up, teeth);
            if (divisor < 1) {
                return;
            }
            int armAt = wrap(teeth / divisor, told.n);
            int outAt = wrap(up / divisor, told.n);
            long span = on == 0 ? ring[r] - teeth : ring[r] + teeth;
            long out = told.spanOf(outAt);
            boolean small = out != 0 && out <= MOST_OUT && out >= -MOST_OUT;
            if (armAt != outAt && told.spanOf(armAt) == span && small) {
                keepWay(r, w, on, (int) out);
            }
        }

        private void keepWay(int r, int w, int on, int out) {
            if (ways < KEPT_WAYS) {
                ringOf[ways] = r;
                wheelOf[ways] = w;
                onOf[ways] = on;
                outOf[ways] = out;
            }
            ways++;
        }
    }
}
