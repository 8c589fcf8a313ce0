import java.util.Arrays;

/** Promises 23 to 30: ARMS told back, POINTS put right, PENS and boxes that draw a SHEET. */
public final class FindTest {
    private static final int[] WRONG = {-1, 8, Integer.MIN_VALUE, Integer.MAX_VALUE};

    private static WheelPens withPens() {
        WheelPens x = new WheelPens();
        Due.kit(x, "ring r 96;wheel a 24 in r;pen p a 24;pen q a - 24;wheel b 12 on a at 5/2;pen s b 6;pen t a 0;");
        return x;
    }

    private static void arm(WheelPens x, int i, long f, long length, long plain) {
        Due.due("backAt(" + i + ", 0)", x.backAt(i, 0), f);
        Due.due("backAt(" + i + ", 1)", x.backAt(i, 1), length);
        Due.due("backAt(" + i + ", 2)", x.backAt(i, 2), plain);
    }

    private static void back() {
        WheelPens x = withPens();
        x.draw(0, 1, 8);
        Due.due("back(0)", x.back(0), 2);
        arm(x, 0, 1, 72, 1);
        arm(x, 1, 5, -24, 1);
        Due.due("backAt(2, 0)", x.backAt(2, 0), -1);
        Due.due("backAt(-1, 0)", x.backAt(-1, 0), -1);
        Due.due("backAt(0, 3)", x.backAt(0, 3), -1);
        Due.due("backAt(0, -1)", x.backAt(0, -1), -1);
        x.draw(1, 2, 5);
        x.right(1);
        Due.made(x, 0, 1, 96, 24);
        x.wipe(0);
        Due.due("back of none", x.back(0), -1);
        arm(x, 1, 5, -24, 1);
        Due.due("WINDINGS 2, 5 and 27 for 5: two of one f", x.back(1), 2);
        arm(x, 0, 0, 36, 1);
        arm(x, 1, 2, 78, 1);
        Due.tell(x, 2, 1, 0, 0, 0, 0, 0);
        Due.due("not PLAIN: 1 is not 3 times a whole number", x.back(2), 3);
        arm(x, 2, 2, 0, 0);
        Due.tell(x, 2, 0, 5, 0, 5, 0, 5);
        Due.due("not PLAIN: 15 z", x.back(2), 1);
        arm(x, 0, 0, 0, 0);
        Due.tell(x, 2, -5, 0, -5, 0, -5, 0);
        Due.due("PLAIN: -15", x.back(2), 1);
        arm(x, 0, 0, -5, 1);
        Due.tell(x, 2, 0, 0, 0, 0, 0, 0);
        Due.due("no ARMS", x.back(2), 0);
        Due.due("backAt(0, 0)", x.backAt(0, 0), -1);
        for (int s : WRONG) {
            Due.due("back(" + s + ")", x.back(s), -1);
        }
    }

    private static void right() {
        WheelPens x = withPens();
        x.draw(0, 2, 12);
        Due.due("a drawing is right", x.right(0), 3);
        Due.due("wrong()", x.wrong(), -1);
        Due.dueThrow("rightAt(0)", () -> x.rightAt(0));
        Due.tell(x, 1, 0, 0, 0, 0, 0, 0, 0, 0, 7, -3, 0, 0, 0, 0, 0, 0, 0, 0, 0, 0, 0, 0, 0, 0);
        Due.mix(x, 2, "a+b turn 5");
        Due.due("one wrong POINT", x.right(2), 3);
        Due.due("wrong()", x.wrong(), 4);
        for (int i = 0; i < 4; i++) {
            Due.due("rightAt(" + i + ")", x.rightAt(i), x.point(0, 4, i));
        }
        Due.dueThrow("rightAt(4)", () -> x.rightAt(4));
        Due.dueThrow("rightAt(-1)", () -> x.rightAt(-1));
        Due.due("the SHEET stays", x.shared(2, 0), 11);
        x.wipe(2);
        Due.due("right of none", x.right(2), -1);
        Due.due("the latest that was not NONE", x.wrong(), 4);
        for (int s : WRONG) {
            Due.due("right(" + s + ")", x.right(s), -1);
        }
        Due.tell(x, 3, 5, 0, 3, 0, 0, 0);
        Due.due("the least k", x.right(3), 2);
        Due.due("wrong()", x.wrong(), 0);
        Due.due("the least f", x.rightAt(0), -3);
        Due.due("the least f", x.rightAt(1), 0);
        Due.tell(x, 3, 1, 0, 1, 0, 0, 0, 0, 0);
        Due.due("none changed ahead of any", x.right(3), 3);
        Due.due("wrong()", x.wrong(), -1);
        Due.dueThrow("rightAt(0)", () -> x.rightAt(0));
        Due.tell(x, 3, new int[8]);
        Due.due("noughts", x.right(3), 0);
        Due.due("wrong()", x.wrong(), -1);
        Due.tell(x, 3, 1, 2, 1, 2, 1, 2, 9, 9, 1, 2);
        Due.due("one of five", x.right(3), 1);
        Due.due("wrong()", x.wrong(), 3);
        Due.due("rightAt(1)", x.rightAt(1), 2);
    }

    private static void drawnBy() {
        WheelPens x = withPens();
        x.draw(0, 0, 8);
        Due.due("p, and q turned", x.drawnBy(0), 3);
        x.draw(1, 0, 12);
        Due.due("p alone: 8 m is never 6 more than a 12-fold", x.drawnBy(1), 1);
        Due.mix(x, 2, "b turn 7 from 3");
        Due.due("turned", x.drawnBy(2), 1);
        x.draw(3, 2, 7);
        Due.due("s alone", x.drawnBy(3), 4);
        Due.mix(x, 4, "d turn 1 from 2 mirror");
        Due.due("not MIRRORED", x.drawnBy(4), 0);
        x.draw(5, 3, 7);
        Due.mix(x, 5, "f from 3");
        Due.due("t alone", x.drawnBy(5), 8);
        Due.kit(x, "ring r 2;");
        Due.due("the KIT stays", x.drawnBy(5), 8);
        Due.kit(x, "");
        Due.due("no PENS", x.drawnBy(5), 0);
        Due.kit(x, "ring r 96;wheel a 24 in r;pen a b 0;");
        StringBuilder text = new StringBuilder("ring r 96;wheel a 24 in r;");
        for (char c = 'b'; c < 'j'; c++) {
            text.append("pen ").append(c).append(" a 0;");
        }
        Due.kit(x, text.toString());
        Due.due("eight PENS", x.drawnBy(5), 255);
        Due.due("none", x.drawnBy(7), -1);
        for (int s : WRONG) {
            Due.due("drawnBy(" + s + ")", x.drawnBy(s), -1);
        }
    }

    private static void way(WheelPens x, int k, int ring, int wheel, int on, int out) {
        int[] want = {ring, wheel, on, out};
        for (int what = 0; what < 4; what++) {
            Due.due("madeAt(" + k + ", " + what + ")", x.madeAt(k, what), want[what]);
        }
    }

    private static void made() {
        WheelPens x = withPens();
        x.draw(0, 0, 3);
        Due.due("made", Due.made(x, 0, 5, 96, 48, 60, 64, 33, 24, 12, 8, 9), 5);
        way(x, 0, 0, 0, 0, 24);
        way(x, 1, 1, 0, 1, 24);
        way(x, 2, 2, 1, 1, 24);
        way(x, 3, 3, 2, 1, 24);
        way(x, 4, 4, 3, 0, 72);
        Due.dueThrow("madeAt(5, 0)", () -> x.madeAt(5, 0));
        Due.dueThrow("madeAt(-1, 0)", () -> x.madeAt(-1, 0));
        Due.dueThrow("madeAt(0, 4)", () -> x.madeAt(0, 4));
        Due.dueThrow("madeAt(0, -1)", () -> x.madeAt(0, -1));
        x.draw(1, 3, 8);
        Due.due("one ARM", Due.made(x, 1, 1, 96, 24), -1);
        x.draw(1, 2, 12);
        Due.due("three ARMS", Due.made(x, 1, 1, 96, 24), -1);
        x.draw(1, 0, 8);
        Due.mix(x, 2, "b turn 1");
        Due.due("two that are not PLAIN", Due.made(x, 2, 1, 96, 24), -1);
        Due.due("the latest that was 0 or above", x.madeAt(4, 3), 72);
        Due.due("as it stands, not moved", Due.made(x, 2, 1, 2, 24), -2);
        Due.mix(x, 2, "b turn 4");
        Due.due("the ARM below 0", Due.made(x, 2, 1, 96, 24), 0);
        Due.dueThrow("no ways now", () -> x.madeAt(0, 0));
        x.draw(1, 1, 8);
        Due.due("OUT below 0", Due.made(x, 1, 1, 96, 24), 1);
        way(x, 0, 0, 0, 0, -24);
        Due.due("as many TEETH can't be 'in'", Due.made(x, 1, 2, 24, 72, 72, 24), 0);
        int[] alike = new int[24];
        Arrays.fill(alike, 0, 12, 96);
        Arrays.fill(alike, 12, 24, 24);
        Due.due("144 ways", Due.made(x, 1, 12, alike), 144);
        way(x, 39, 3, 3, 0, -24);
        Due.dueThrow("madeAt(40, 0)", () -> x.madeAt(40, 0));
    }

    private static void madeOut() {
        WheelPens x = new WheelPens();
        Due.kit(x, "ring r 96;wheel a 24 in r;pen p a 100;pen q a 101;pen s a - 100;pen t a - 101;");
        long[] ways = {1, 0, 1, 0};
        for (int pen = 0; pen < 4; pen++) {
            x.draw(0, pen, 8);
            Due.mix(x, 0, "2 a");
            Due.due("OUT at its ends", Due.made(x, 0, 1, 192, 48), ways[pen]);
        }
    }

    private static void badBoxes() {
        WheelPens x = withPens();
        x.draw(0, 0, 8);
        Due.due("no tape", x.made(0, 1), -2);
        Due.due("no rings", Due.made(x, 0, 0, 96, 24), -2);
        Due.due("no wheels", Due.made(x, 0, 2, 96, 24), -2);
        Due.due("n below 0", Due.made(x, 0, -1, 96, 24), -2);
        Due.due("the least n", Due.made(x, 0, Integer.MIN_VALUE, 96, 24), -2);
        Due.due("the greatest n", Due.made(x, 0, Integer.MAX_VALUE, 96, 24), -2);
        int[] many = new int[14];
        Arrays.fill(many, 24);
        Due.due("13 rings", Due.made(x, 0, 13, many), -2);
        Due.due("13 wheels", Due.made(x, 0, 1, many), -2);
        Due.due("12 rings", Due.made(x, 0, 12, many), 0);
        Due.due("2 teeth", Due.made(x, 0, 1, 96, 2), -2);
        Due.due("2 teeth", Due.made(x, 0, 1, 2, 24), -2);
        Due.due("201 teeth", Due.made(x, 0, 1, 201, 24), -2);
        Due.due("3 and 200 teeth", Due.made(x, 0, 1, 200, 3), 0);
        Due.due("-2 ahead of NONE", Due.made(x, 7, 1, 96, 2), -2);
        Due.due("the tape is empty", x.count(4), 0);
        Due.due("none", Due.made(x, 7, 1, 96, 24), -1);
        for (int s : WRONG) {
            Due.due("made(" + s + ", 1)", Due.made(x, s, 1, 96, 24), -1);
            Due.due("the tape is empty", x.count(4), 0);
        }
    }

    public static void main(String[] args) {
        back();
        right();
        drawnBy();
        made();
        madeOut();
        badBoxes();
        Due.report();
    }
}
