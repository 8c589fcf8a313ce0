import java.util.Arrays;

/** The bounds that part 3 of the Terms and promises 23 to 30 name, sentence by sentence: the last
    input inside, the first one outside, and what calls answer behind a refused one. */
public final class FindBoundsTest {
    private static final int[] NO_SHEETS = {-1, 8, 9, Integer.MIN_VALUE, Integer.MAX_VALUE};
    private static final int[] FAR = {Integer.MIN_VALUE, Integer.MAX_VALUE};

    private static WheelPens withPens() {
        WheelPens x = new WheelPens();
        Due.kit(x, "ring r 96;wheel a 24 in r;pen p a 24;pen q a - 24;wheel b 12 on a at 5/2;pen s b 6;pen t a 0;");
        return x;
    }

    private static void arm(WheelPens x, int i, long f, long length, long plain) {
        Due.due("backAt(" + i + ", 0)", x.backAt(i, 0), f);
        Due.due("backAt(" + i + ", 1)", x.backAt(i, 1), length);
        Due.due("backAt(" + i + ", 2)", x.backAt(i, 2), plain);
    }

    private static void back() {
        Due.says("TOLD BACK: ARM f (0 to N - 1): there, if it is not 0");
        WheelPens x = new WheelPens();
        Due.tell(x, 0, new int[6]);
        Due.due("no ARMS", x.back(0), 0);
        Due.due("backAt(0, 0)", x.backAt(0, 0), -1);
        Due.tell(x, 0, 7, 0, 7, 0, 7, 0, 7, 0);
        Due.due("the least f alone", x.back(0), 1);
        arm(x, 0, 0, 7, 1);
        Due.tell(x, 0, 7, 0, 0, -7, -7, 0, 0, 7);
        Due.due("the greatest f alone", x.back(0), 1);
        arm(x, 0, 3, 7, 1);
        int[] first = new int[120];
        first[0] = 1;
        Due.tell(x, 0, first);
        Due.due("all of 60", x.back(0), 60);
        arm(x, 0, 0, 0, 0);
        arm(x, 59, 59, 0, 0);
        Due.due("backAt(60, 0)", x.backAt(60, 0), -1);
        first[0] = 60;
        Due.tell(x, 0, first);
        Due.due("all of 60", x.back(0), 60);
        arm(x, 0, 0, 1, 1);
        arm(x, 59, 59, 1, 1);
        Due.says("PLAIN, if it is N times a whole number, its length (else 0)");
        for (int number = -9; number <= 9; number++) {
            Due.tell(x, 0, number, 0, 0, 0, 0, 0, 0, 0);
            boolean plain = number % 4 == 0;
            Due.due("of " + number + " alone", x.back(0), number == 0 ? 0 : 4);
            if (number != 0) {
                arm(x, 3, 3, plain ? number / 4 : 0, plain ? 1 : 0);
            }
        }
        Due.tell(x, 0, 4, 4, 0, 0, 0, 0, 0, 0);
        x.back(0);
        arm(x, 0, 0, 0, 0);
        Due.tell(x, 0, 0, 4, 0, 0, 0, 0, 0, 0);
        x.back(0);
        arm(x, 0, 0, 0, 0);
        Due.tell(x, 0, 5, 0, -5, 0, 0, 0, 0, 0);
        Due.due("0 is not there", x.back(0), 3);
        arm(x, 0, 1, 0, 0);
        Due.says("ARMS that come round to one f are one, or none");
        Due.kit(x, "ring r 96;wheel a 24 in r;pen p a 72;pen q a - 72;");
        x.draw(0, 0, 4);
        Due.due("-3 and 1 for 4", x.back(0), 1);
        arm(x, 0, 1, 144, 1);
        x.draw(0, 1, 4);
        Due.due("-3 and 1 for 4, with -", x.back(0), 0);
    }

    private static void backRefused() {
        Due.says("Promise 23: NONE: it is none");
        WheelPens x = withPens();
        Due.due("back(0)", x.back(0), -1);
        Due.says("Promise 24: NONE ahead of any");
        for (int what = -1; what < 4; what++) {
            Due.due("backAt(0, " + what + ")", x.backAt(0, what), -1);
        }
        x.draw(0, 1, 8);
        x.draw(1, 2, 12);
        Due.due("back(0)", x.back(0), 2);
        Due.says("Promise 24: NONE: there is none such, another what");
        for (int i : new int[] {-1, 2, 59, 60, FAR[0], FAR[1]}) {
            for (int what = 0; what < 3; what++) {
                Due.due("backAt(" + i + ", " + what + ")", x.backAt(i, what), -1);
            }
        }
        for (int what : new int[] {-1, 3, FAR[0], FAR[1]}) {
            Due.due("backAt(0, " + what + ")", x.backAt(0, what), -1);
        }
        Due.says("Promise 24: by the latest back() that was not NONE");
        for (int s : NO_SHEETS) {
            Due.due("back(" + s + ")", x.back(s), -1);
        }
        Due.due("back(7)", x.back(7), -1);
        x.right(1);
        Due.made(x, 1, 1, 96, 24);
        x.drawnBy(1);
        x.draw(0, 2, 5);
        x.wipe(0);
        arm(x, 0, 1, 72, 1);
        arm(x, 1, 5, -24, 1);
        Due.due("backAt(2, 0)", x.backAt(2, 0), -1);
        Due.tell(x, 0, new int[6]);
        Due.due("a back() that was 0", x.back(0), 0);
        Due.due("backAt(0, 0)", x.backAt(0, 0), -1);
    }

    private static void dueRight(WheelPens x, int sheet, int arms, int wrong) {
        Due.due("right(" + sheet + ")", x.right(sheet), arms);
        Due.due("wrong()", x.wrong(), wrong);
    }

    private static void right() {
        Due.says("PUT RIGHT: one POINT at most is changed so that the fewest ARMS are there");
        WheelPens x = new WheelPens();
        Due.tell(x, 0, 9, 9, 1, 2, 1, 2, 1, 2, 1, 2);
        dueRight(x, 0, 1, 0);
        Due.due("rightAt(0)", x.rightAt(0), 1);
        Due.due("rightAt(1)", x.rightAt(1), 2);
        Due.tell(x, 0, 1, 2, 1, 2, 1, 2, 1, 2, 9, 9);
        dueRight(x, 0, 1, 4);
        Due.due("rightAt(0)", x.rightAt(0), 1);
        Due.due("rightAt(3)", x.rightAt(3), 0);
        Due.tell(x, 0, 0, 0, 0, 0, 0, 7);
        dueRight(x, 0, 0, 2);
        Due.due("rightAt(0)", x.rightAt(0), 0);
        Due.due("rightAt(1)", x.rightAt(1), 0);
        Due.says("of like ones none changed");
        Due.tell(x, 0, new int[6]);
        dueRight(x, 0, 0, -1);
        Due.tell(x, 0, 5, 0, 5, 0, 5, 0);
        dueRight(x, 0, 1, -1);
        Due.tell(x, 0, 1, 0, 1, 0, 0, 0, 0, 0);
        dueRight(x, 0, 3, -1);
        Due.says("else the least k; then so that an ARM f is gone, the least such f");
        Due.tell(x, 0, 5, 0, 3, 0, 0, 0);
        dueRight(x, 0, 2, 0);
        Due.due("rightAt(0)", x.rightAt(0), -3);
        Due.due("rightAt(1)", x.rightAt(1), 0);
        Due.tell(x, 0, 1, 2, 3, 4, 5, 6, 8, 8, 9, 1, 2, 2, 7, 0);
        dueRight(x, 0, 6, 0);
        Due.due("1 + 2 z less the sum of all, 35 + 23 z", x.rightAt(0), -34);
        Due.due("1 + 2 z less the sum of all", x.rightAt(1), -21);
        Due.says("the least such f, whatever f the right() ahead of it came to");
        Due.tell(x, 0, 9, 9, 1, 2, 1, 2, 1, 2, 1, 2);
        dueRight(x, 0, 1, 0);
        Due.tell(x, 0, 1, 2, 3, 4, 5, 6, 8, 8, 9, 1, 2, 2, 7, 0);
        dueRight(x, 0, 6, 0);
        Due.due("rightAt(0)", x.rightAt(0), -34);
        int[] last = new int[118];
        last[116] = 100;
        last[117] = -100;
        Due.says("the last POINT, the greatest p");
        Due.tell(x, 0, last);
        dueRight(x, 0, 0, 58);
        Due.due("rightAt(57)", x.rightAt(57), 0);
        Due.dueThrow("rightAt(58)", () -> x.rightAt(58));
        Due.says("Promise 25: the SHEET stays");
        Due.due("POINT 58", x.point(0, 58, 0), 100);
        Due.due("POINT 58", x.point(0, 58, 1), -100);
    }

    private static void rightRefused() {
        Due.says("Promise 25: NONE: it is none");
        WheelPens x = new WheelPens();
        Due.due("right(0)", x.right(0), -1);
        Due.says("Promise 26: NONE ahead of any");
        Due.due("wrong()", x.wrong(), -1);
        Due.says("Promise 27: NoSuchElementException: ahead of any");
        Due.dueThrow("rightAt(0)", () -> x.rightAt(0));
        Due.tell(x, 0, 1, 2, 1, 2, 9, 9, 1, 2, 1, 2);
        Due.tell(x, 1, 1, 2, 1, 2, 1, 2, 1, 2, 1, 2);
        dueRight(x, 0, 1, 2);
        Due.says("Promise 27: NoSuchElementException: no such number");
        Due.due("the first", x.rightAt(0), 1);
        Due.due("the last", x.rightAt(3), 0);
        for (int i : new int[] {-1, 4, FAR[0], FAR[1]}) {
            Due.dueThrow("rightAt(" + i + ")", () -> x.rightAt(i));
        }
        Due.says("Promise 26, 27: by the latest right() that was not NONE");
        for (int s : NO_SHEETS) {
            Due.due("right(" + s + ")", x.right(s), -1);
        }
        Due.due("right(7)", x.right(7), -1);
        x.back(1);
        Due.made(x, 1, 1, 96, 24);
        x.drawnBy(1);
        x.wipe(0);
        Due.tell(x, 0, 0, 0, 0, 0, 0, 0);
        Due.due("wrong()", x.wrong(), 2);
        Due.due("rightAt(1)", x.rightAt(1), 2);
        Due.due("rightAt(3)", x.rightAt(3), 0);
        Due.says("Promise 26: NONE: none is; Promise 27: none is changed");
        dueRight(x, 1, 1, -1);
        Due.dueThrow("rightAt(0)", () -> x.rightAt(0));
        Due.tell(x, 0, 0, 0, 0, 0, 7, 0);
        dueRight(x, 0, 0, 2);
        Due.dueThrow("rightAt(2) of 3", () -> x.rightAt(2));
    }

    private static void drawnBy() {
        Due.says("Promise 28: PENS as bits; NONE: it is none");
        WheelPens x = new WheelPens();
        Due.due("drawnBy(0)", x.drawnBy(0), -1);
        Due.tell(x, 0, 0, 0, 0, 0, 0, 0);
        Due.due("no PENS", x.drawnBy(0), 0);
        StringBuilder text = new StringBuilder("ring r 96;wheel a 24 in r;");
        for (char c = 'b'; c < 'j'; c++) {
            text.append("pen ").append(c).append(" a ").append(c - 'a').append(";");
        }
        Due.kit(x, text.toString());
        for (int pen = 0; pen < 8; pen++) {
            x.draw(1, pen, 60);
            Due.due("by PEN " + pen + " alone", x.drawnBy(1), 1 << pen);
            Due.mix(x, 1, "b turn 59 from 59");
            Due.due("by PEN " + pen + ", turned and moved", x.drawnBy(1), 1 << pen);
        }
        Due.due("by none", x.drawnBy(0), 0);
        for (int s : NO_SHEETS) {
            Due.due("drawnBy(" + s + ")", x.drawnBy(s), -1);
        }
        Due.due("drawnBy(7)", x.drawnBy(7), -1);
        Due.kit(x, text.toString().replaceAll("a [0-9];", "a 7;"));
        x.draw(1, 0, 5);
        Due.due("by all eight", x.drawnBy(1), 255);
        Due.kit(x, text + "!");
        Due.due("a KIT that stays", x.drawnBy(1), 255);
        Due.says("DRAWN BY: not MIRRORED");
        Due.kit(x, "ring r 96;wheel a 24 in r at 1/2;wheel b 24 in r at - 1/2;pen p a 7;pen q b 7;");
        x.draw(1, 0, 7);
        Due.due("by p", x.drawnBy(1), 1);
        Due.mix(x, 1, "b mirror");
        Due.due("by q", x.drawnBy(1), 2);
    }

    private static void way(WheelPens x, int k, int ring, int wheel, int on, int out) {
        int[] want = {ring, wheel, on, out};
        for (int what = 0; what < 4; what++) {
            Due.due("madeAt(" + k + ", " + what + ")", x.madeAt(k, what), want[what]);
        }
    }

    private static int[] filled(int size, int teeth) {
        int[] all = new int[size];
        Arrays.fill(all, teeth);
        return all;
    }

    private static int made(WheelPens x, int sheet, int n, int... teeth) {
        int answer = Due.made(x, sheet, n, teeth);
        Due.due("the tape behind made()", x.count(4), 0);
        return answer;
    }

    private static void boxes() {
        Due.says("Promise 29: 1 to 12 each");
        WheelPens x = withPens();
        x.draw(0, 0, 8);
        Due.due("no tape", x.made(0, 1), -2);
        Due.due("no tape", x.made(0, 0), -2);
        Due.due("one of each", made(x, 0, 1, 96, 24), 1);
        Due.due("no rings", made(x, 0, 0, 96, 24), -2);
        Due.due("no wheels", made(x, 0, 2, 96, 24), -2);
        Due.due("more rings than bytes", made(x, 0, 3, 96, 24), -2);
        Due.due("12 rings, one wheel", made(x, 0, 12, filled(13, 24)), 0);
        Due.due("13 rings, one wheel", made(x, 0, 13, filled(14, 24)), -2);
        Due.due("one ring, 12 wheels", made(x, 0, 1, filled(13, 24)), 0);
        Due.due("one ring, 13 wheels", made(x, 0, 1, filled(14, 24)), -2);
        Due.due("12 of each", made(x, 0, 12, filled(24, 24)), 0);
        Due.due("12 and 13", made(x, 0, 12, filled(25, 24)), -2);
        Due.due("13 and 12", made(x, 0, 13, filled(25, 24)), -2);
        Due.due("640 bytes", made(x, 0, 12, filled(640, 24)), -2);
        for (int n : new int[] {-1, -2, FAR[0], FAR[1]}) {
            Due.due("n is " + n, made(x, 0, n, 96, 24), -2);
        }
        Due.says("Promise 29: TEETH of 3 to 200");
        Due.due("3 and 200", made(x, 0, 2, 3, 200, 200, 3), 0);
        for (int teeth : new int[] {0, 1, 2, 201, 255}) {
            Due.due("a ring of " + teeth, made(x, 0, 1, teeth, 24), -2);
            Due.due("a wheel of " + teeth, made(x, 0, 1, 96, teeth), -2);
            Due.due("the last wheel of " + teeth, made(x, 0, 1, 96, 24, 24, teeth), -2);
        }
        Due.says("Promise 29: -2: the tape is not as told; else NONE: the SHEET is none");
        Due.due("-2 ahead of NONE", made(x, 7, 1, 96, 2), -2);
        Due.due("it is none", made(x, 7, 1, 96, 24), -1);
        for (int s : NO_SHEETS) {
            Due.due("-2 ahead of NONE", made(x, s, 0, 96, 24), -2);
            Due.due("made(" + s + ", 1)", made(x, s, 1, 96, 24), -1);
        }
    }

    private static void twoArms() {
        Due.says("Promise 29: NONE: has not just two ARMS, both PLAIN");
        WheelPens x = withPens();
        Due.tell(x, 0, new int[16]);
        Due.due("no ARM", made(x, 0, 1, 96, 24), -1);
        x.draw(0, 3, 8);
        Due.due("one ARM", made(x, 0, 1, 96, 24), -1);
        x.draw(0, 2, 12);
        Due.due("three ARMS", made(x, 0, 1, 96, 24), -1);
        Due.tell(x, 0, 3, 0, 0, -1, 1, 0, 0, 1);
        Due.due("three ARMS side by side", x.back(0), 3);
        Due.due("three ARMS side by side", made(x, 0, 1, 96, 24), -1);
        x.draw(0, 0, 8);
        Due.due("two ARMS", made(x, 0, 1, 96, 24), 1);
        Due.mix(x, 1, "a turn 1");
        Due.due("two that are not PLAIN", made(x, 1, 1, 96, 24), -1);
        Due.tell(x, 2, 0, 1, 0, 1, 0, 1, 0, 1, 0, 1, 0, 1, 0, 1, 0, 1);
        x.draw(3, 3, 8);
        Due.mix(x, 3, "c+d");
        Due.due("one of two is not PLAIN", made(x, 3, 1, 96, 24), -1);
        x.draw(0, 0, 4);
        Due.due("two speeds that come round to one ARM", made(x, 0, 1, 96, 24), -1);
        Due.says("if it is drawn so for that N, as it stands");
        x.draw(0, 0, 8);
        Due.mix(x, 1, "a from 1");
        Due.due("moved: not PLAIN", made(x, 1, 1, 96, 24), -1);
        Due.mix(x, 1, "a turn 4");
        Due.due("turned by half", made(x, 1, 1, 96, 24), 0);
        Due.mix(x, 1, "a mirror");
        Due.due("mirrored: 7 and 3", made(x, 1, 1, 96, 24), 0);
        Due.says("one 'in' it has fewer TEETH");
        x.draw(0, 0, 8);
        Due.due("a wheel of more TEETH: 24 - 96 is no length", made(x, 0, 1, 24, 96), 0);
        Due.tell(x, 0, 6, 0, 4, 0, 6, 0, 4, 0);
        Due.due("0 and 2", x.back(0), 2);
        Due.due("as many TEETH: its ARM would be none", made(x, 0, 1, 24, 24), 0);
        Due.kit(x, "ring r 4;wheel a 3 in r;pen p a 5;");
        x.draw(0, 0, 7);
        Due.due("one TOOTH fewer", made(x, 0, 3, 4, 3, 5, 3, 4), 1);
        way(x, 0, 0, 0, 0, 5);
    }

    private static void outs() {
        Due.says("OUT being any whole number -200 to 200 (not 0)");
        WheelPens x = new WheelPens();
        Due.kit(x, "ring r 96;wheel a 24 in r;pen p a 200;pen q a - 200;pen s a 1;pen t a - 1;");
        int[] outs = {200, -200, 1, -1};
        for (int pen = 0; pen < 4; pen++) {
            x.draw(pen, pen, 8);
            Due.due("OUT " + outs[pen], made(x, pen, 1, 96, 24), 1);
            way(x, 0, 0, 0, 0, outs[pen]);
        }
        Due.kit(x, "ring r 96;wheel a 24 in r;pen p a 0;");
        x.draw(4, 0, 8);
        Due.due("OUT 0", made(x, 4, 1, 96, 24), -1);
        Due.mix(x, 5, "a+c-e");
        x.back(5);
        arm(x, 1, 5, 201, 1);
        Due.due("OUT 201", made(x, 5, 1, 96, 24), 0);
        Due.mix(x, 5, "b+d-e");
        x.back(5);
        arm(x, 1, 5, -201, 1);
        Due.due("OUT -201", made(x, 5, 1, 96, 24), 0);
        Due.mix(x, 5, "b+c-e");
        Due.due("OUT -199", made(x, 5, 1, 96, 24), 1);
        way(x, 0, 0, 0, 0, -199);
    }

    private static void ways() {
        Due.says("Promise 29: ring by ring, wheel by wheel, 'in' ahead of 'on'");
        WheelPens x = withPens();
        x.draw(0, 0, 3);
        Due.due("made", made(x, 0, 3, 48, 96, 48, 24, 12, 24), 6);
        way(x, 0, 0, 0, 1, 24);
        way(x, 1, 0, 2, 1, 24);
        way(x, 2, 1, 0, 0, 24);
        way(x, 3, 1, 2, 0, 24);
        way(x, 4, 2, 0, 1, 24);
        way(x, 5, 2, 2, 1, 24);
        Due.says("Promise 30: the k-th way (below 40)");
        int[] alike = filled(24, 24);
        Arrays.fill(alike, 0, 12, 96);
        x.draw(0, 0, 8);
        Due.due("27 ways", made(x, 0, 3, Arrays.copyOfRange(alike, 9, 21)), 27);
        way(x, 26, 2, 8, 0, 24);
        Due.dueThrow("madeAt(27, 0)", () -> x.madeAt(27, 0));
        Due.due("40 ways", made(x, 0, 4, Arrays.copyOfRange(alike, 8, 22)), 40);
        way(x, 39, 3, 9, 0, 24);
        Due.dueThrow("madeAt(40, 0)", () -> x.madeAt(40, 0));
        Due.due("144 ways", made(x, 0, 12, alike), 144);
        way(x, 0, 0, 0, 0, 24);
        way(x, 39, 3, 3, 0, 24);
        for (int k : new int[] {40, 41, 143, 144, -1, FAR[0], FAR[1]}) {
            for (int what = 0; what < 4; what++) {
                int w = what;
                Due.dueThrow("madeAt(" + k + ", " + what + ")", () -> x.madeAt(k, w));
            }
        }
        Due.says("Promise 30: NoSuchElementException: there is none such");
        for (int what : new int[] {-1, 4, FAR[0], FAR[1]}) {
            Due.dueThrow("madeAt(0, " + what + ")", () -> x.madeAt(0, what));
        }
    }

    private static void latestMade() {
        Due.says("Promise 30: ahead of any");
        WheelPens x = withPens();
        Due.dueThrow("madeAt(0, 0)", () -> x.madeAt(0, 0));
        Due.due("made() that is -2", x.made(0, 1), -2);
        Due.due("made() that is NONE", made(x, 0, 1, 96, 24), -1);
        Due.dueThrow("madeAt(0, 0)", () -> x.madeAt(0, 0));
        Due.says("Promise 30: by the latest made() that was 0 or above");
        x.draw(0, 0, 8);
        x.draw(1, 3, 8);
        Due.due("two ways", made(x, 0, 1, 96, 24, 12, 24), 2);
        Due.due("-2", made(x, 0, 1, 96, 2), -2);
        Due.due("-2", made(x, 0, 5, 96, 100, 100), -2);
        Due.due("NONE", made(x, 1, 1, 96, 24), -1);
        Due.due("NONE", made(x, 7, 2, 96, 96, 24), -1);
        Due.due("NONE", made(x, 8, 2, 96, 96, 24), -1);
        x.wipe(0);
        way(x, 0, 0, 0, 0, 24);
        way(x, 1, 0, 2, 0, 24);
        Due.dueThrow("madeAt(2, 0)", () -> x.madeAt(2, 0));
        x.draw(0, 0, 8);
        Due.due("no way", made(x, 0, 1, 95, 24), 0);
        Due.dueThrow("madeAt(0, 0)", () -> x.madeAt(0, 0));
    }

    public static void main(String[] args) {
        back();
        backRefused();
        right();
        rightRefused();
        drawnBy();
        boxes();
        twoArms();
        outs();
        ways();
        latestMade();
        Due.report();
    }
}
