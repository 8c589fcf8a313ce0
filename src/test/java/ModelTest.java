import java.util.ArrayList;
import java.util.List;
import java.util.NoSuchElementException;
import java.util.Random;
import java.util.function.LongSupplier;

/** Runs of calls, made by a fixed seed, whose answers are held against those of the Model. */
public final class ModelTest {
    private static final long THROWS = Long.MIN_VALUE;
    private static int wrong;

    private final Random random;
    private final WheelPens x = new WheelPens();
    private final Model model = new Model();
    private final List<String> log = new ArrayList<>();
    private final int mostN;
    private boolean off;

    private ModelTest(long seed, int mostN) {
        this.random = new Random(seed);
        this.mostN = mostN;
    }

    private static long answer(LongSupplier call) {
        try {
            return call.getAsLong();
        } catch (NoSuchElementException e) {
            return THROWS;
        }
    }

    private long due(String call, LongSupplier got, LongSupplier want) {
        long g = answer(got);
        long w = answer(want);
        log.add(call + " -> " + g);
        if (g != w && !off) {
            off = true;
            wrong++;
            log.forEach(System.out::println);
            System.out.println("due is " + w);
        }
        return w;
    }

    private int upTo(int most) {
        return random.nextInt(most + 1);
    }

    private boolean oneIn(int n) {
        return random.nextInt(n) == 0;
    }

    private String pick(String... from) {
        return from[random.nextInt(from.length)];
    }

    // ---- texts

    private void put(byte[] bytes) {
        for (int at = 0; at < bytes.length; at += 20) {
            int[] v = new int[5];
            for (int i = 0; i < 20; i++) {
                int b = at + i < bytes.length ? bytes[at + i] & 255 : 'z';
                v[i / 4] = v[i / 4] << 8 | b;
            }
            due("feed", () -> x.feed(v[0], v[1], v[2], v[3], v[4]), () -> model.feed(v));
        }
        due("end(" + bytes.length + ")", () -> x.end(bytes.length) ? 1 : 0, () -> model.end(bytes.length) ? 1 : 0);
    }

    private void putText(String text) {
        log.add("text: " + text);
        put(text.getBytes(java.nio.charset.StandardCharsets.ISO_8859_1));
    }

    private String blank() {
        return oneIn(8) ? pick("\n", "  ", " \n ") : "";
    }

    private String number(int least, int most) {
        if (oneIn(200)) {
            return pick("0", "2", "3", "200", "201", "99", "100", "000", "0003", "7x", "999");
        }
        String digits = String.valueOf(least + upTo(most - least));
        return oneIn(20) && digits.length() < 3 ? "0" + digits : digits;
    }

    private String kitText() {
        StringBuilder text = new StringBuilder();
        List<String> bases = new ArrayList<>();
        List<String> wheels = new ArrayList<>();
        int lines = oneIn(4) ? 4 + upTo(30) : 3 + upTo(8);
        int next = 0;
        for (int i = 0; i < lines; i++) {
            String name = oneIn(200) ? pick("aa", "in", "at", "longer", "toolong", "b1") : "a" + (char) ('a' + next++ % 26);
            int sort = bases.isEmpty() ? 0 : wheels.isEmpty() ? 1 : 1 + upTo(1);
            sort = oneIn(10) ? 0 : oneIn(100) ? 2 : sort;
            if (sort == 0) {
                text.append("ring ").append(name).append(' ').append(number(30, oneIn(3) ? 200 : 60));
                bases.add(name);
            } else if (sort == 1 && !bases.isEmpty()) {
                String base = oneIn(2) ? bases.get(0) : bases.get(upTo(bases.size() - 1));
                text.append("wheel ").append(name).append(blank()).append(' ').append(number(3, oneIn(3) ? 29 : 8));
                text.append(base.equals(bases.get(0)) && !oneIn(4) ? " in " : oneIn(40) ? " in " : " on ").append(oneIn(200) ? pick("zz", "ring", name, "9") : base);
                if (oneIn(3)) {
                    text.append(" at ").append(oneIn(2) ? "-" : "").append(blank());
                    text.append(number(0, oneIn(4) ? 99 : 5)).append(blank()).append('/').append(number(1, oneIn(4) ? 99 : 4));
                }
                bases.add(name);
                wheels.add(name);
            } else {
                String wheel = wheels.isEmpty() || oneIn(200) ? pick("aa", "zz") : wheels.get(upTo(wheels.size() - 1));
                text.append("pen ").append(name).append(' ').append(wheel).append(oneIn(3) ? " - " : " ");
                text.append(number(0, oneIn(2) ? 200 : 20));
            }
            text.append(blank()).append(';').append(blank());
        }
        return oneIn(4) ? spoilt(text) : text.toString();
    }

    private String mixText() {
        StringBuilder text = new StringBuilder(oneIn(4) ? pick("+", "-", " - ") : "");
        int parts = oneIn(6) ? 10 + upTo(4) : 1 + upTo(3);
        for (int i = 0; i < parts; i++) {
            text.append(i == 0 ? "" : pick("+", "-", " + ", "\n-"));
            text.append(oneIn(2) ? number(0, oneIn(9) ? 999 : 9) + pick("", "", " ").concat(" ") : "");
            text.append((char) ('a' + (oneIn(40) ? upTo(9) : upTo(4))));
            for (int j = oneIn(2) ? 0 : upTo(3); j > 0; j--) {
                text.append(pick(" turn " + number(0, 70), " from " + number(0, 70), " mirror", " back"));
            }
        }
        return oneIn(6) ? spoilt(text) : text.toString();
    }

    private String spoilt(StringBuilder text) {
        int at = text.length() == 0 ? 0 : upTo(text.length() - 1);
        switch (upTo(5)) {
            case 0:
                text.insert(at, (char) upTo(255));
                break;
            case 1:
                text.insert(at, pick(";", "-", "+", "/", ".", " ", "9", "a", "at", "\t"));
                break;
            case 2:
                text.setLength(at);
                break;
            case 3:
                text.insert(at, " ".repeat(oneIn(2) ? 150 + upTo(100) : 500 + upTo(130)));
                break;
            default:
                if (text.length() > 0) {
                    text.deleteCharAt(at);
                }
        }
        text.setLength(Math.min(text.length(), 640));
        return text.toString();
    }

    // ---- calls

    private int number(int most) {
        return oneIn(25) ? upTo(most + 6) - 3 : upTo(most);
    }

    private void readKit() {
        putText(kitText());
        due("kit", x::kit, model::kit);
        due("fault", x::fault, () -> model.fault);
        for (int i = 0; i < 3; i++) {
            int what = i;
            due("count(" + i + ")", () -> x.count(what), () -> model.count(what));
        }
        for (int i = 0; i <= model.count(1); i++) {
            int w = i;
            due("spin(" + w + ", 0)", () -> x.spin(w, 0), () -> model.spin(w, 0));
            due("spin(" + w + ", 1)", () -> x.spin(w, 1), () -> model.spin(w, 1));
        }
        for (int i = 0; i <= model.count(2); i++) {
            seePen(i);
        }
    }

    private void seePen(int pen) {
        due("closes(" + pen + ")", () -> x.closes(pen), () -> model.closes(pen));
        due("lobes(" + pen + ")", () -> x.lobes(pen), () -> model.lobes(pen));
        long arms = due("arms(" + pen + ")", () -> x.arms(pen), () -> model.arms(pen));
        for (int i = -1; i <= arms; i++) {
            int a = i;
            due("arm(" + pen + ", " + i + ", 0)", () -> x.arm(pen, a, 0), () -> model.arm(pen, a, 0));
            due("arm(" + pen + ", " + i + ", 1)", () -> x.arm(pen, a, 1), () -> model.arm(pen, a, 1));
        }
    }

    private void makeSheet(int n) {
        int s = number(7);
        int a = number(4);
        int b = number(4);
        switch (upTo(3)) {
            case 0:
                byte[] bytes = new byte[2 * n + (oneIn(30) ? 1 : 0)];
                int span = oneIn(2) ? 1 : oneIn(2) ? 3 : 255;
                for (int i = 0; i < bytes.length; i++) {
                    bytes[i] = (byte) (oneIn(3) ? upTo(span) - span / 2 : 0);
                }
                put(bytes);
                due("tell(" + s + ")", () -> x.tell(s), () -> model.tell(s));
                break;
            case 1:
                int pen = number(Math.max(0, model.count(2) - 1));
                due("draw(" + s + ", " + pen + ", " + n + ")", () -> x.draw(s, pen, n), () -> model.draw(s, pen, n));
                break;
            case 2:
                putText(mixText());
                due("mix(" + s + ")", () -> x.mix(s), () -> model.mix(s));
                due("fault", x::fault, () -> model.fault);
                break;
            default:
                due("product(" + s + ", " + a + ", " + b + ")", () -> x.product(s, a, b), () -> model.product(s, a, b));
        }
        seePoints(s);
    }

    private void seePoints(int s) {
        int n = Math.max(0, model.about(s, 0));
        int p = Math.max(0, model.about(s, 1));
        for (int k = 0; k <= n; k++) {
            for (int i = 0; i <= p; i++) {
                int kk = k;
                int ii = i;
                due("point(" + s + ", " + k + ", " + i + ")", () -> x.point(s, kk, ii), () -> model.point(s, kk, ii));
            }
        }
    }

    private void seeSheet() {
        int a = number(4);
        int b = oneIn(3) ? number(7) : number(4);
        int what = number(4);
        switch (upTo(9)) {
            case 0:
                due("about(" + a + ", " + what + ")", () -> x.about(a, what), () -> model.about(a, what));
                break;
            case 1:
                due("same(" + a + ", " + what + ")", () -> x.same(a, what), () -> model.same(a, what));
                break;
            case 2:
                for (int i = 0; i <= Math.max(0, model.about(a, 1)); i++) {
                    int ii = i;
                    due("area(" + a + ", " + i + ")", () -> x.area(a, ii), () -> model.area(a, ii));
                }
                break;
            case 3:
                due("one(" + a + ", " + b + ")", () -> x.one(a, b), () -> model.one(a, b));
                break;
            case 4:
                due("again(" + a + ", " + what + ")", () -> x.again(a, what), () -> model.again(a, what));
                break;
            case 5:
                due("shared(" + a + ", " + b + ")", () -> x.shared(a, b), () -> model.shared(a, b));
                break;
            case 6:
                due("back(" + a + ")", () -> x.back(a), () -> model.back(a));
                break;
            case 7:
                due("right(" + a + ")", () -> x.right(a), () -> model.right(a));
                break;
            case 8:
                due("drawnBy(" + a + ")", () -> x.drawnBy(a), () -> model.drawnBy(a));
                break;
            default:
                seeMade(a, 3 + upTo(20));
        }
        seeKept();
    }

    private char letter(int s) {
        return (char) ('a' + s);
    }

    /** A SHEET moved into another one, which one() and drawnBy() should see. */
    private void moveSheet(int n) {
        int a = upTo(4);
        int b = upTo(4);
        putText(pick("", "-") + letter(a) + pick("", " mirror") + " turn " + upTo(n) + " from " + upTo(n));
        due("mix(" + b + ")", () -> x.mix(b), () -> model.mix(b));
        due("one(" + a + ", " + b + ")", () -> x.one(a, b), () -> model.one(a, b));
        due("one(" + b + ", " + a + ")", () -> x.one(b, a), () -> model.one(b, a));
        due("drawnBy(" + b + ")", () -> x.drawnBy(b), () -> model.drawnBy(b));
        due("shared(" + a + ", " + b + ")", () -> x.shared(a, b), () -> model.shared(a, b));
    }

    /** A drawing with one POINT or a few of them changed, for right() to see. */
    private void spoilSheet(int n) {
        byte[] bytes = new byte[2 * n];
        for (int i = oneIn(3) ? upTo(3) : 0; i >= 0; i--) {
            bytes[upTo(bytes.length - 1)] = (byte) (upTo(4) - 2);
        }
        put(bytes);
        due("tell(6)", () -> x.tell(6), () -> model.tell(6));
        putText(letter(upTo(4)) + "+g turn " + upTo(n));
        due("mix(7)", () -> x.mix(7), () -> model.mix(7));
        due("right(7)", () -> x.right(7), () -> model.right(7));
        int p = model.about(7, 1);
        for (int i = 0; i <= p; i++) {
            int ii = i;
            due("rightAt(" + i + ")", () -> x.rightAt(ii), () -> model.rightAt(ii));
        }
        seeKept();
    }

    private void seeMade(int sheet, int... among) {
        byte[] box = new byte[2 + upTo(4) + (oneIn(10) ? upTo(22) : 0)];
        for (int i = 0; i < box.length; i++) {
            box[i] = (byte) (oneIn(200) ? upTo(255) : oneIn(3) ? 3 + upTo(20) : among[upTo(among.length - 1)]);
        }
        put(box);
        int n = oneIn(20) ? number(13) : 1 + upTo(box.length / 2);
        due("made(" + sheet + ", " + n + ")", () -> x.made(sheet, n), () -> model.made(sheet, n));
    }

    /** A SHEET that is drawn by a ring and a wheel, for made() to find. */
    private void drawSimply(int n) {
        int teeth = 3 + upTo(15);
        int base = teeth + 1 + upTo(10);
        putText("ring r " + base + ";wheel w " + teeth + pick(" in r;", " on r;") + "pen p w" + pick(" ", " -") + upTo(20) + ";");
        due("kit", x::kit, model::kit);
        int s = upTo(4);
        due("draw(" + s + ", 0, " + n + ")", () -> x.draw(s, 0, n), () -> model.draw(s, 0, n));
        for (int i = 0; i < 3; i++) {
            seeMade(s, base, teeth, teeth + n, base + n);
            seeKept();
        }
    }

    private void seeKept() {
        for (int i = 0; i < 4; i++) {
            int k = number(i < 2 ? 3 : 40);
            int what = number(3);
            due("backAt(" + k + ", " + what + ")", () -> x.backAt(k, what), () -> model.backAt(k, what));
            due("rightAt(" + k + ")", () -> x.rightAt(k), () -> model.rightAt(k));
            due("madeAt(" + k + ", " + what + ")", () -> x.madeAt(k, what), () -> model.madeAt(k, what));
            due("count(" + what + ")", () -> x.count(what + 1), () -> model.count(what + 1));
        }
        due("wrong()", x::wrong, model::wrong);
    }

    /** Numbers as great as they can be, for an N with many of them. */
    private void greatNumbers(int n) {
        byte[] bytes = new byte[2 * n];
        for (int i = 0; i < bytes.length; i++) {
            bytes[i] = (byte) (oneIn(2) ? 125 : -125);
        }
        put(bytes);
        due("tell(0)", () -> x.tell(0), () -> model.tell(0));
        StringBuilder text = new StringBuilder("a");
        for (int i = 1; i < 12; i++) {
            text.append("+-".charAt(upTo(1))).append("a turn ").append(5 * i);
        }
        putText(text.toString());
        due("mix(1)", () -> x.mix(1), () -> model.mix(1));
        for (int times = 999; times > 0; times = times * 9 / 10) {
            putText(times + " b");
            due("mix(2)", () -> x.mix(2), () -> model.mix(2));
        }
        putText("8 c");
        due("mix(2)", () -> x.mix(2), () -> model.mix(2));
        for (int i = 0; i <= model.about(2, 1); i += 1 + upTo(9)) {
            int ii = i;
            due("area(2, " + i + ")", () -> x.area(2, ii), () -> model.area(2, ii));
        }
        due("back(2)", () -> x.back(2), () -> model.back(2));
        due("same(2, 2)", () -> x.same(2, 2), () -> model.same(2, 2));
        due("product(3, 0, 0)", () -> x.product(3, 0, 0), () -> model.product(3, 0, 0));
        seePoints(2);
        seePoints(3);
    }

    private void run(int steps) {
        readKit();
        int n = 3 + upTo(mostN - 3);
        for (int i = 0; i < 5; i++) {
            int s = i;
            int pen = upTo(Math.max(0, model.count(2) - 1));
            due("draw(" + s + ", " + pen + ", " + n + ")", () -> x.draw(s, pen, n), () -> model.draw(s, pen, n));
        }
        for (int i = 0; i < steps && !off; i++) {
            int kind = upTo(22);
            if (kind == 0) {
                readKit();
            } else if (kind == 1) {
                int s = number(7);
                due("wipe(" + s + ")", () -> x.wipe(s) ? 1 : 0, () -> model.wipe(s) ? 1 : 0);
            } else if (kind == 2) {
                drawSimply(n);
            } else if (kind < 10) {
                makeSheet(oneIn(20) ? 2 + upTo(mostN) : n);
            } else if (kind < 20) {
                seeSheet();
            } else if (kind == 20) {
                spoilSheet(n);
            } else {
                moveSheet(n);
            }
        }
    }

    public static void main(String[] args) {
        int scale = args.length > 0 ? Integer.parseInt(args[0]) : 1;
        long seed = args.length > 1 ? Long.parseLong(args[1]) : 1;
        for (int i = 0; i < 250 * scale && wrong < 3; i++) {
            new ModelTest(seed * 1000003 + i, 8).run(50);
        }
        for (int i = 0; i < 25 * scale && wrong < 3; i++) {
            new ModelTest(seed * 2000003 + i, 18).run(25);
        }
        for (int i = 0; i < 2000 * scale && wrong < 3; i++) {
            new ModelTest(seed * 3000003 + i, 8).readKit();
        }
        for (int n : new int[] {3, 6, 15, 30, 42, 47, 58, 59, 60}) {
            new ModelTest(seed * 4000003 + n, n).greatNumbers(n);
        }
        System.out.println(wrong == 0 ? "all answers are as due" : wrong + " runs are not as due");
        if (wrong != 0) {
            System.exit(1);
        }
    }
}
