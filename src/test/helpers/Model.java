import java.math.BigInteger;
import java.util.ArrayList;
import java.util.Arrays;
import java.util.Collections;
import java.util.HashMap;
import java.util.HashSet;
import java.util.LinkedHashMap;
import java.util.List;
import java.util.Map;
import java.util.NoSuchElementException;
import java.util.TreeMap;
import java.util.regex.Matcher;
import java.util.regex.Pattern;

/**
 * The document once more, written down as slowly and as near to its words as can be, with great
 * whole numbers and without any of the class's shortcuts. Calls of the class are held against it.
 */
public final class Model {
    static final class Fault extends Exception {
        final int kind;
        final int place;

        Fault(int kind, int place) {
            this.kind = kind;
            this.place = place;
        }
    }

    record Token(String text, int place) {
        boolean word() {
            return text.matches("[a-z]{1,6}");
        }

        boolean number() {
            return text.matches("[0-9]{1,3}");
        }

        int value() {
            return Integer.parseInt(text);
        }
    }

    /** A share in least numbers. */
    record Share(BigInteger up, BigInteger low) {
        static Share of(long up, long low) {
            return of(BigInteger.valueOf(up), BigInteger.valueOf(low));
        }

        static Share of(BigInteger up, BigInteger low) {
            BigInteger g = up.gcd(low);
            if (low.signum() < 0) {
                g = g.negate();
            }
            return new Share(up.divide(g), low.divide(g));
        }

        Share plus(Share o) {
            return of(up.multiply(o.low).add(o.up.multiply(low)), low.multiply(o.low));
        }

        Share times(Share o) {
            return of(up.multiply(o.up), low.multiply(o.low));
        }

        Share minus(Share o) {
            return plus(o.times(of(-1, 1)));
        }

        boolean small() {
            BigInteger most = BigInteger.valueOf(9999);
            return up.abs().compareTo(most) <= 0 && low.compareTo(most) <= 0;
        }
    }

    static final class Part {
        char sort;
        int number;
        int teeth;
        Part base;
        boolean in;
        Share speed;
        Share spin = Share.of(0, 1);
        int out;

        int wheelsUpTo() {
            return sort == 'r' ? 0 : 1 + base.wheelsUpTo();
        }
    }

    static final class Kit {
        final Map<String, Part> named = new LinkedHashMap<>();
        int lines;

        List<Part> sort(char c) {
            List<Part> found = new ArrayList<>();
            for (Part p : named.values()) {
                if (p.sort == c) {
                    found.add(p);
                }
            }
            return found;
        }
    }

    /** WHOLE SUMS for an N. */
    static final class Ring {
        private static final Map<Integer, BigInteger[]> FIRST = new HashMap<>();
        final int n;
        final BigInteger[] divisor;
        final int p;

        Ring(int n) {
            this.n = n;
            this.divisor = firstRoots(n);
            this.p = divisor.length - 1;
        }

        /** x^n - 1, divided by those of all smaller divisors of n. */
        static BigInteger[] firstRoots(int n) {
            BigInteger[] known = FIRST.get(n);
            if (known != null) {
                return known;
            }
            BigInteger[] left = zeros(n + 1);
            left[0] = BigInteger.ONE.negate();
            left[n] = BigInteger.ONE;
            for (int d = 1; d < n; d++) {
                if (n % d == 0) {
                    left = quotient(left, firstRoots(d));
                }
            }
            FIRST.put(n, left);
            return left;
        }

        static BigInteger[] zeros(int size) {
            BigInteger[] z = new BigInteger[size];
            Arrays.fill(z, BigInteger.ZERO);
            return z;
        }

        static BigInteger[] quotient(BigInteger[] a, BigInteger[] b) {
            BigInteger[] left = a.clone();
            BigInteger[] q = zeros(a.length - b.length + 1);
            for (int i = q.length - 1; i >= 0; i--) {
                q[i] = left[i + b.length - 1];
                for (int j = 0; j < b.length; j++) {
                    left[i + j] = left[i + j].subtract(q[i].multiply(b[j]));
                }
            }
            return q;
        }

        List<BigInteger> rest(BigInteger[] a) {
            BigInteger[] left = a.clone();
            for (int i = left.length - 1; i >= p; i--) {
                BigInteger c = left[i];
                for (int j = 0; j <= p; j++) {
                    left[i - p + j] = left[i - p + j].subtract(c.multiply(divisor[j]));
                }
            }
            List<BigInteger> r = new ArrayList<>();
            for (int i = 0; i < p; i++) {
                r.add(i < left.length ? left[i] : BigInteger.ZERO);
            }
            return r;
        }

        List<BigInteger> zero() {
            return rest(zeros(1));
        }

        List<BigInteger> root(long power, long times) {
            BigInteger[] a = zeros(n);
            a[(int) Math.floorMod(power, (long) n)] = BigInteger.valueOf(times);
            return rest(a);
        }

        List<BigInteger> plus(List<BigInteger> a, List<BigInteger> b) {
            List<BigInteger> r = new ArrayList<>();
            for (int i = 0; i < p; i++) {
                r.add(a.get(i).add(b.get(i)));
            }
            return r;
        }

        List<BigInteger> times(List<BigInteger> a, List<BigInteger> b) {
            BigInteger[] r = zeros(2 * p);
            for (int i = 0; i < p; i++) {
                for (int j = 0; j < p; j++) {
                    r[i + j] = r[i + j].add(a.get(i).multiply(b.get(j)));
                }
            }
            return rest(r);
        }

        List<BigInteger> turned(List<BigInteger> a, long power) {
            return times(a, root(power, 1));
        }

        List<BigInteger> mirrored(List<BigInteger> a) {
            BigInteger[] r = zeros(n);
            for (int i = 0; i < p; i++) {
                int to = (n - i) % n;
                r[to] = r[to].add(a.get(i));
            }
            return rest(r);
        }

        List<BigInteger> minus(List<BigInteger> a, List<BigInteger> b) {
            return plus(a, times(b, root(0, -1)));
        }
    }

    static final class Sheet {
        final Ring ring;
        final List<List<BigInteger>> points;

        Sheet(Ring ring, List<List<BigInteger>> points) {
            this.ring = ring;
            this.points = points;
        }

        int n() {
            return ring.n;
        }

        List<BigInteger> at(int k) {
            return points.get(Math.floorMod(k, ring.n));
        }

        boolean within() {
            for (List<BigInteger> q : points) {
                for (BigInteger b : q) {
                    if (b.abs().compareTo(BigInteger.valueOf(1000000)) > 0) {
                        return false;
                    }
                }
            }
            return true;
        }

        Sheet mirrored() {
            List<List<BigInteger>> made = new ArrayList<>();
            for (List<BigInteger> q : points) {
                made.add(ring.mirrored(q));
            }
            return new Sheet(ring, made);
        }

        List<List<BigInteger>> arms() {
            List<List<BigInteger>> found = new ArrayList<>();
            for (int f = 0; f < n(); f++) {
                List<BigInteger> sum = ring.zero();
                for (int k = 0; k < n(); k++) {
                    sum = ring.plus(sum, ring.turned(at(k), (long) n() * n() - (long) f * k));
                }
                found.add(sum);
            }
            return found;
        }

        int armsThere() {
            int there = 0;
            for (List<BigInteger> a : arms()) {
                if (!a.equals(ring.zero())) {
                    there++;
                }
            }
            return there;
        }
    }

    byte[] tape = new byte[0];
    Kit kit = new Kit();
    final Sheet[] sheets = new Sheet[8];
    int fault;
    List<long[]> backs = new ArrayList<>();
    int wrong = -1;
    List<BigInteger> right;
    List<int[]> ways = new ArrayList<>();

    private byte[] takeTape() {
        byte[] was = tape;
        tape = new byte[0];
        return was;
    }

    int feed(int... five) {
        if (tape.length + 20 > 640) {
            return -1;
        }
        byte[] more = Arrays.copyOf(tape, tape.length + 20);
        for (int i = 0; i < 5; i++) {
            byte[] four = java.nio.ByteBuffer.allocate(4).putInt(five[i]).array();
            System.arraycopy(four, 0, more, tape.length + 4 * i, 4);
        }
        tape = more;
        return tape.length;
    }

    boolean end(int n) {
        if (n < 0 || n > tape.length) {
            return false;
        }
        tape = Arrays.copyOf(tape, n);
        return true;
    }

    // ---- texts

    /** The TOKENS that begin ahead of the limit, and a last one, of no text, for the end. */
    static List<Token> tokens(byte[] bytes, int limit) {
        String text = new String(bytes, java.nio.charset.StandardCharsets.ISO_8859_1);
        List<Token> found = new ArrayList<>();
        Matcher m = Pattern.compile("[a-z0-9]+|[^ \\n]", Pattern.DOTALL).matcher(text);
        while (m.find() && m.start() < limit) {
            found.add(new Token(m.group(), m.start()));
        }
        found.add(new Token("", Math.min(limit, bytes.length)));
        return found;
    }

    static final List<String> TAKEN = List.of("ring", "wheel", "pen", "in", "on", "at");

    static final class Reader {
        final List<Token> tokens;
        int i;

        Reader(List<Token> tokens) {
            this.tokens = tokens;
        }

        Token see() {
            return tokens.get(i);
        }

        Token next() {
            return tokens.get(i++);
        }

        boolean has(String text) {
            if (see().text.equals(text)) {
                i++;
                return true;
            }
            return false;
        }

        void want(String text) throws Fault {
            if (!has(text)) {
                throw new Fault(1, see().place);
            }
        }

        Token name() throws Fault {
            Token t = see();
            if (!t.word() || TAKEN.contains(t.text)) {
                throw new Fault(1, t.place);
            }
            return next();
        }

        int number(int least, int most) throws Fault {
            Token t = see();
            if (!t.number()) {
                throw new Fault(1, t.place);
            }
            if (t.value() < least || t.value() > most) {
                throw new Fault(2, t.place);
            }
            return next().value();
        }
    }

    static Kit readKit(byte[] bytes) throws Fault {
        Kit k = new Kit();
        Reader r = new Reader(tokens(bytes, 600));
        while (!r.see().text.isEmpty()) {
            readLine(k, r);
            k.lines++;
        }
        if (bytes.length > 600) {
            throw new Fault(1, 600);
        }
        return k;
    }

    static void readLine(Kit k, Reader r) throws Fault {
        Token first = r.next();
        if (!List.of("ring", "wheel", "pen").contains(first.text)) {
            throw new Fault(1, first.place);
        }
        Part part = new Part();
        part.sort = first.text.charAt(0);
        part.number = k.sort(part.sort).size();
        if (part.number >= Map.of('r', 4, 'w', 12, 'p', 8).get(part.sort)) {
            throw new Fault(4, first.place);
        }
        Token name = r.name();
        if (k.named.containsKey(name.text)) {
            throw new Fault(3, name.place);
        }
        if (part.sort == 'p') {
            Token wheel = r.name();
            part.base = k.named.get(wheel.text);
            if (part.base == null || part.base.sort != 'w') {
                throw new Fault(3, wheel.place);
            }
            int sign = r.has("-") ? -1 : 1;
            part.out = sign * r.number(0, 200);
            r.want(";");
        } else {
            part.teeth = r.number(3, 200);
            if (part.sort == 'w') {
                readRolling(k, r, part);
            } else {
                r.want(";");
            }
        }
        k.named.put(name.text, part);
    }

    private static void readRolling(Kit k, Reader r, Part part) throws Fault {
        part.in = r.has("in");
        if (!part.in) {
            r.want("on");
        }
        Token base = r.name();
        part.base = k.named.get(base.text);
        if (part.base == null || part.base.sort == 'p') {
            throw new Fault(3, base.place);
        }
        if (part.in && part.teeth >= part.base.teeth) {
            throw new Fault(2, base.place);
        }
        if (part.wheelsUpTo() == 5) {
            throw new Fault(4, base.place);
        }
        part.speed = Share.of(1, 1);
        if (r.has("at")) {
            int sign = r.has("-") ? -1 : 1;
            int up = r.number(0, 99);
            r.want("/");
            part.speed = Share.of(sign * up, r.number(1, 99));
        }
        Token close = r.see();
        r.want(";");
        Share rolled = part.base.spin.minus(part.speed).times(Share.of(part.base.teeth, part.teeth));
        part.spin = part.in ? part.speed.plus(rolled) : part.speed.minus(rolled);
        if (!part.spin.small()) {
            throw new Fault(5, close.place);
        }
    }

    int kit() {
        try {
            kit = readKit(takeTape());
            fault = 0;
            return kit.lines;
        } catch (Fault f) {
            fault = f.kind;
            return -1 - f.place;
        }
    }

    private <T> T get(List<T> list, int i) {
        if (i < 0 || i >= list.size()) {
            throw new NoSuchElementException();
        }
        return list.get(i);
    }

    int spin(int w, int what) {
        Share s = get(kit.sort('w'), w).spin;
        return get(List.of(s.up, s.low), what).intValueExact();
    }

    // ---- PENS

    static List<Map.Entry<Share, Long>> shares(Part pen) {
        Map<Share, Long> sums = new HashMap<>();
        sums.merge(pen.base.spin, (long) pen.out, Long::sum);
        for (Part w = pen.base; w.sort == 'w'; w = w.base) {
            long length = w.in ? w.base.teeth - w.teeth : w.base.teeth + w.teeth;
            sums.merge(w.speed, length, Long::sum);
        }
        sums.values().removeIf(v -> v == 0);
        return new ArrayList<>(sums.entrySet());
    }

    static BigInteger turns(Part pen) {
        BigInteger c = BigInteger.ONE;
        for (Map.Entry<Share, Long> e : shares(pen)) {
            BigInteger low = e.getKey().low;
            c = c.multiply(low).divide(c.gcd(low));
        }
        return c;
    }

    static TreeMap<BigInteger, Long> windings(Part pen) {
        TreeMap<BigInteger, Long> found = new TreeMap<>();
        for (Map.Entry<Share, Long> e : shares(pen)) {
            found.put(e.getKey().times(Share.of(turns(pen), BigInteger.ONE)).up, e.getValue());
        }
        return found;
    }

    private Part pen(int pen) {
        List<Part> pens = kit.sort('p');
        return pen < 0 || pen >= pens.size() ? null : pens.get(pen);
    }

    long closes(int pen) {
        return pen(pen) == null ? -1 : turns(pen(pen)).longValueExact();
    }

    int arms(int pen) {
        return pen(pen) == null ? -1 : shares(pen(pen)).size();
    }

    long arm(int pen, int i, int what) {
        Map.Entry<BigInteger, Long> e =
            get(new ArrayList<>(windings(get(kit.sort('p'), pen)).entrySet()), i);
        return get(List.of(e.getKey().longValueExact(), e.getValue()), what);
    }

    long lobes(int pen) {
        if (pen(pen) == null) {
            return -1;
        }
        BigInteger g = BigInteger.ZERO;
        for (BigInteger a : windings(pen(pen)).keySet()) {
            for (BigInteger b : windings(pen(pen)).keySet()) {
                g = g.gcd(a.subtract(b));
            }
        }
        return g.longValueExact();
    }

    static Sheet drawing(Part pen, int n) {
        Ring ring = new Ring(n);
        List<List<BigInteger>> points = new ArrayList<>();
        TreeMap<BigInteger, Long> arms = windings(pen);
        for (int k = 0; k < n; k++) {
            List<BigInteger> sum = ring.zero();
            for (Map.Entry<BigInteger, Long> e : arms.entrySet()) {
                BigInteger power = e.getKey().multiply(BigInteger.valueOf(k)).mod(BigInteger.valueOf(n));
                sum = ring.plus(sum, ring.root(power.longValue(), e.getValue()));
            }
            points.add(sum);
        }
        return new Sheet(ring, points);
    }

    // ---- SHEETS

    private boolean isSheet(int s) {
        return s >= 0 && s < 8;
    }

    private Sheet sheet(int s) {
        return isSheet(s) ? sheets[s] : null;
    }

    int draw(int s, int pen, int n) {
        if (!isSheet(s) || pen(pen) == null || n < 3 || n > 60) {
            return -1;
        }
        sheets[s] = drawing(pen(pen), n);
        return new HashSet<>(sheets[s].points).size();
    }

    int tell(int s) {
        byte[] b = takeTape();
        if (!isSheet(s) || b.length % 2 != 0 || b.length < 6 || b.length > 120) {
            return -1;
        }
        Ring ring = new Ring(b.length / 2);
        List<List<BigInteger>> points = new ArrayList<>();
        for (int k = 0; k < ring.n; k++) {
            points.add(ring.plus(ring.root(0, b[2 * k]), ring.root(1, b[2 * k + 1])));
        }
        sheets[s] = new Sheet(ring, points);
        return ring.n;
    }

    int mix(int s) {
        byte[] b = takeTape();
        if (!isSheet(s)) {
            return -1000;
        }
        List<Sheet> parts;
        try {
            parts = readMix(b);
            fault = 0;
        } catch (Fault f) {
            fault = f.kind;
            return -1 - f.place;
        }
        Ring ring = parts.get(0).ring;
        List<List<BigInteger>> points = new ArrayList<>();
        for (int k = 0; k < ring.n; k++) {
            List<BigInteger> sum = ring.zero();
            for (Sheet part : parts) {
                sum = ring.plus(sum, part.at(k));
            }
            points.add(sum);
        }
        Sheet made = new Sheet(ring, points);
        if (!made.within()) {
            return -2000;
        }
        sheets[s] = made;
        return parts.size();
    }

    private List<Sheet> readMix(byte[] bytes) throws Fault {
        Reader r = new Reader(tokens(bytes, 200));
        List<Sheet> parts = new ArrayList<>();
        do {
            Token sign = r.see();
            boolean plus = r.has("+");
            boolean minus = !plus && r.has("-");
            if (!parts.isEmpty() && !plus && !minus) {
                throw new Fault(1, sign.place);
            }
            if (parts.size() == 12) {
                throw new Fault(2, sign.place);
            }
            parts.add(readPart(r, minus ? -1 : 1, parts.isEmpty() ? null : parts.get(0)));
        } while (!r.see().text.isEmpty());
        if (bytes.length > 200) {
            throw new Fault(1, 200);
        }
        return parts;
    }

    private Sheet readPart(Reader r, int sign, Sheet first) throws Fault {
        int times = r.see().number() ? r.next().value() : 1;
        Token letter = r.see();
        if (!letter.text.matches("[a-h]")) {
            throw new Fault(1, letter.place);
        }
        Sheet now = sheets[r.next().text.charAt(0) - 'a'];
        if (now == null || first != null && first.n() != now.n()) {
            throw new Fault(3, letter.place);
        }
        while (r.see().word()) {
            Token t = r.next();
            switch (t.text) {
                case "turn": now = changed(now, r.number(0, 999), 0, false, 1); break;
                case "from": now = changed(now, 0, r.number(0, 999), false, 1); break;
                case "mirror": now = changed(now, 0, 0, true, 1); break;
                case "back": now = changed(now, 0, 0, false, -1); break;
                default: throw new Fault(1, t.place);
            }
        }
        List<List<BigInteger>> points = new ArrayList<>();
        for (List<BigInteger> q : now.points) {
            points.add(now.ring.times(q, now.ring.root(0, (long) sign * times)));
        }
        return new Sheet(now.ring, points);
    }

    private static Sheet changed(Sheet s, int turn, int from, boolean mirror, int way) {
        List<List<BigInteger>> points = new ArrayList<>();
        for (int k = 0; k < s.n(); k++) {
            List<BigInteger> q = s.at(way * k + from);
            points.add(s.ring.turned(mirror ? s.ring.mirrored(q) : q, turn));
        }
        return new Sheet(s.ring, points);
    }

    boolean wipe(int s) {
        boolean was = sheet(s) != null;
        if (was) {
            sheets[s] = null;
        }
        return was;
    }

    int about(int s, int what) {
        Sheet q = sheet(s);
        if (q == null || what < 0 || what > 4) {
            return -1;
        }
        if (what < 2) {
            return what == 0 ? q.n() : q.ring.p;
        }
        if (what == 2) {
            return new HashSet<>(q.points).size();
        }
        int most = 0;
        for (List<BigInteger> point : q.points) {
            most = Math.max(most, Collections.frequency(q.points, point));
        }
        if (what == 3) {
            return most;
        }
        for (int k = 0; k < q.n(); k++) {
            if (q.points.subList(0, k).contains(q.at(k))) {
                return k;
            }
        }
        return -1;
    }

    long point(int s, int k, int i) {
        if (sheet(s) == null) {
            throw new NoSuchElementException();
        }
        return get(get(sheet(s).points, k), i).longValueExact();
    }

    int same(int s, int what) {
        Sheet q = sheet(s);
        if (q == null || what < 0 || what > 2) {
            return -1;
        }
        HashSet<List<BigInteger>> set = new HashSet<>();
        if (what == 2) {
            for (List<BigInteger> point : q.points) {
                set.add(q.ring.times(point, q.ring.mirrored(point)));
            }
            return set.size();
        }
        Sheet from = what == 1 ? q.mirrored() : q;
        int found = 0;
        for (int n = 0; n < q.n(); n++) {
            set.clear();
            for (List<BigInteger> point : from.points) {
                set.add(q.ring.turned(point, n));
            }
            if (set.equals(new HashSet<>(q.points))) {
                found++;
            }
        }
        return found;
    }

    long area(int s, int i) {
        Sheet q = sheet(s);
        if (q == null) {
            throw new NoSuchElementException();
        }
        Ring ring = q.ring;
        List<BigInteger> sum = ring.zero();
        for (int k = 0; k < q.n(); k++) {
            sum = ring.plus(sum, ring.times(ring.mirrored(q.at(k)), q.at(k + 1)));
            sum = ring.minus(sum, ring.times(q.at(k), ring.mirrored(q.at(k + 1))));
        }
        return get(sum, i).longValueExact();
    }

    private static boolean isMoved(Sheet a, Sheet b, int n, int m) {
        for (int k = 0; k < a.n(); k++) {
            if (!b.at(k).equals(a.ring.turned(a.at(k + m), n))) {
                return false;
            }
        }
        return true;
    }

    private static int oneOf(Sheet a, Sheet b) {
        for (int n = 0; n < a.n(); n++) {
            for (int m = 0; m < a.n(); m++) {
                if (isMoved(a, b, n, m)) {
                    return 100 * n + m;
                }
            }
        }
        return -1;
    }

    int one(int a, int b) {
        Sheet p = sheet(a);
        Sheet q = sheet(b);
        if (p == null || q == null || p.n() != q.n()) {
            return -2;
        }
        int plain = oneOf(p, q);
        if (plain >= 0) {
            return plain;
        }
        int mirrored = oneOf(p.mirrored(), q);
        return mirrored < 0 ? -1 : 10000 + mirrored;
    }

    int again(int s, int what) {
        Sheet q = sheet(s);
        if (q == null || what < 0 || what > 1) {
            return -1;
        }
        if (what == 0) {
            int m = 1;
            while (!isMoved(q, q, 0, m)) {
                m++;
            }
            return m;
        }
        int found = 0;
        for (int n = 0; n < q.n(); n++) {
            for (int m = 0; m < q.n(); m++) {
                found += isMoved(q, q, n, m) ? 1 : 0;
            }
        }
        return found;
    }

    int product(int to, int a, int b) {
        Sheet p = sheet(a);
        Sheet q = sheet(b);
        if (!isSheet(to) || p == null || q == null || p.n() != q.n()) {
            return -1;
        }
        List<List<BigInteger>> points = new ArrayList<>();
        for (int k = 0; k < p.n(); k++) {
            points.add(p.ring.times(p.at(k), q.at(k)));
        }
        Sheet made = new Sheet(p.ring, points);
        if (!made.within()) {
            return -2000;
        }
        sheets[to] = made;
        return made.n();
    }

    int shared(int a, int b) {
        Sheet p = sheet(a);
        Sheet q = sheet(b);
        if (p == null || q == null || p.n() != q.n()) {
            return -2;
        }
        HashSet<List<BigInteger>> set = new HashSet<>(p.points);
        set.retainAll(new HashSet<>(q.points));
        return set.size();
    }

    // ---- told back, put right, drawn by, made

    /** f, length and whether PLAIN, of each ARM that is there. */
    private static List<long[]> toldBack(Sheet q) {
        List<long[]> found = new ArrayList<>();
        List<List<BigInteger>> arms = q.arms();
        BigInteger n = BigInteger.valueOf(q.n());
        for (int f = 0; f < q.n(); f++) {
            List<BigInteger> a = arms.get(f);
            if (!a.equals(q.ring.zero())) {
                BigInteger length = a.get(0).divide(n);
                boolean plain = a.equals(q.ring.times(q.ring.root(0, q.n()), q.ring.root(0, length.longValueExact())));
                found.add(new long[] {f, plain ? length.longValueExact() : 0, plain ? 1 : 0});
            }
        }
        return found;
    }

    int back(int s) {
        if (sheet(s) == null) {
            return -1;
        }
        backs = toldBack(sheet(s));
        return backs.size();
    }

    long backAt(int i, int what) {
        return i < 0 || i >= backs.size() || what < 0 || what > 2 ? -1 : backs.get(i)[what];
    }

    int right(int s) {
        Sheet q = sheet(s);
        if (q == null) {
            return -1;
        }
        int best = q.armsThere();
        wrong = -1;
        right = null;
        List<List<BigInteger>> arms = q.arms();
        for (int k = 0; k < q.n(); k++) {
            for (int f = 0; f < q.n(); f++) {
                List<BigInteger> set = q.ring.minus(q.at(k), q.ring.turned(arms.get(f), (long) f * k));
                List<List<BigInteger>> points = new ArrayList<>(q.points);
                points.set(k, set);
                int there = new Sheet(q.ring, points).armsThere();
                if (there < best) {
                    best = there;
                    wrong = k;
                    right = set;
                }
            }
        }
        return best;
    }

    int wrong() {
        return wrong;
    }

    long rightAt(int i) {
        if (right == null) {
            throw new NoSuchElementException();
        }
        return get(right, i).longValueExact();
    }

    int drawnBy(int s) {
        Sheet q = sheet(s);
        if (q == null) {
            return -1;
        }
        int bits = 0;
        List<Part> pens = kit.sort('p');
        for (int i = 0; i < pens.size(); i++) {
            if (oneOf(drawing(pens.get(i), q.n()), q) >= 0) {
                bits += 1 << i;
            }
        }
        return bits;
    }

    int made(int s, int n) {
        byte[] b = takeTape();
        if (n < 1 || n > 12 || b.length - n < 1 || b.length - n > 12) {
            return -2;
        }
        for (byte t : b) {
            if ((t & 255) < 3 || (t & 255) > 200) {
                return -2;
            }
        }
        Sheet q = sheet(s);
        if (q == null) {
            return -1;
        }
        List<long[]> arms = toldBack(q);
        if (arms.size() != 2 || arms.get(0)[2] != 1 || arms.get(1)[2] != 1) {
            return -1;
        }
        ways = new ArrayList<>();
        for (int r = 0; r < n; r++) {
            for (int w = n; w < b.length; w++) {
                for (int on = 0; on < 2; on++) {
                    for (int out = -200; out <= 200; out++) {
                        if (isDrawnSo(q, b[r] & 255, b[w] & 255, on, out)) {
                            ways.add(new int[] {r, w - n, on, out});
                        }
                    }
                }
            }
        }
        return ways.size();
    }

    /** Whether a KIT of one ring and one wheel draws the SHEET, POINT by POINT. */
    private static boolean isDrawnSo(Sheet q, int ring, int wheel, int on, int out) {
        int span = on == 1 ? ring + wheel : ring - wheel;
        boolean firstPoint = q.at(0).equals(q.ring.root(0, span + out));
        if (out == 0 || on == 0 && wheel >= ring || !firstPoint) {
            return false;
        }
        String text = "ring r " + ring + ";wheel w " + wheel + (on == 1 ? " on r;" : " in r;")
            + "pen p w " + (out < 0 ? "-" : "") + Math.abs(out) + ";";
        try {
            Kit k = readKit(text.getBytes());
            return drawing(k.sort('p').get(0), q.n()).points.equals(q.points);
        } catch (Fault f) {
            throw new IllegalStateException(text);
        }
    }

    int madeAt(int k, int what) {
        if (k >= 40 || what < 0 || what > 3) {
            throw new NoSuchElementException();
        }
        return get(ways, k)[what];
    }

    int count(int what) {
        switch (what) {
            case 0: return kit.sort('r').size();
            case 1: return kit.sort('w').size();
            case 2: return kit.sort('p').size();
            case 3: return (int) Arrays.stream(sheets).filter(q -> q != null).count();
            case 4: return tape.length;
            default: return -1;
        }
    }
}
