/** Promises 5 and 11 to 22: SHEETS that are drawn, told, mixed and wiped, and what is said of them. */
public final class SheetTest {
    private static final int[] WRONG = {-1, 8, Integer.MIN_VALUE, Integer.MAX_VALUE};

    private static WheelPens withSquare() {
        WheelPens x = new WheelPens();
        Due.kit(x, "ring r 96;wheel a 24 in r;pen p a 24;pen q a - 24;wheel c 12 on r at 0/1;pen t c - 108;");
        return x;
    }

    private static void draw() {
        WheelPens x = withSquare();
        Due.due("draw(0, 0, 8)", x.draw(0, 0, 8), 8);
        Due.duePoint(x, 0, 0, "96 0 0 0");
        Due.duePoint(x, 0, 1, "0 48 0 0");
        Due.duePoint(x, 0, 7, "0 0 0 -48");
        Due.due("draw(7, 2, 60): all POINTS 0", x.draw(7, 2, 60), 1);
        Due.due("count(3)", x.count(3), 2);
        Due.due("draw(0, 1, 4): 72 - 24 alone", x.draw(0, 1, 4), 4);
        Due.duePoint(x, 0, 1, "0 48");
        Due.duePoint(x, 0, 2, "-48 0");
        Due.due("draw(0, 0, 2)", x.draw(0, 0, 2), -1);
        Due.due("draw(0, 0, 61)", x.draw(0, 0, 61), -1);
        Due.due("draw(0, 3, 8)", x.draw(0, 3, 8), -1);
        Due.due("draw(0, -1, 8)", x.draw(0, -1, 8), -1);
        for (int s : WRONG) {
            Due.due("draw(" + s + ", 0, 8)", x.draw(s, 0, 8), -1);
        }
        Due.due("the SHEET stays", x.about(0, 0), 4);
    }

    private static void tell() {
        WheelPens x = new WheelPens();
        Due.due("tell(0)", Due.tell(x, 0, 1, 0, 0, 1, 127, -128), 3);
        Due.duePoint(x, 0, 2, "127 -128");
        Due.due("two pairs", Due.tell(x, 0, 1, 0, 0, 1), -1);
        Due.due("three pairs and a half", Due.tell(x, 0, 1, 0, 0, 1, 0, 0, 1), -1);
        Due.due("no tape", x.tell(0), -1);
        Due.due("60 pairs", Due.tell(x, 1, new int[120]), 60);
        Due.due("61 pairs", Due.tell(x, 1, new int[122]), -1);
        Due.due("the tape is empty", x.count(4), 0);
        for (int s : WRONG) {
            Due.due("tell(" + s + ")", Due.tell(x, s, 1, 0, 0, 1, 0, 0), -1);
            Due.due("the tape is empty", x.count(4), 0);
        }
        Due.due("the SHEETS stay", x.about(0, 0) + x.about(1, 0), 63);
    }

    private static WheelPens withTwo() {
        WheelPens x = new WheelPens();
        Due.tell(x, 0, 1, 0, 2, 0, 3, 0, 4, 5, 0, 0);
        Due.tell(x, 1, 0, 1, 0, 0, 0, 0, 0, 0, 0, 0);
        Due.tell(x, 2, 0, 1, 0, 0, 0, 0, 0, 0);
        return x;
    }

    private static void mix() {
        WheelPens x = withTwo();
        Due.due("mix a", Due.mix(x, 3, "a"), 1);
        Due.duePoint(x, 3, 3, "4 5 0 0");
        Due.due("mix turn", Due.mix(x, 3, "a turn 3"), 1);
        Due.duePoint(x, 3, 3, "-5 -5 -5 -1");
        Due.mix(x, 3, "a turn 999");
        Due.duePoint(x, 3, 0, "-1 -1 -1 -1");
        Due.mix(x, 3, "a from 4");
        Due.duePoint(x, 3, 4, "4 5 0 0");
        Due.mix(x, 3, "a mirror");
        Due.duePoint(x, 3, 3, "-1 -5 -5 -5");
        Due.mix(x, 3, "a back");
        Due.duePoint(x, 3, 2, "4 5 0 0");
        Due.duePoint(x, 3, 0, "1 0 0 0");
        Due.mix(x, 3, "a turn 1 mirror");
        Due.duePoint(x, 3, 0, "-1 -1 -1 -1");
        Due.mix(x, 3, "a mirror turn 1");
        Due.duePoint(x, 3, 0, "0 1 0 0");
        Due.mix(x, 3, "a from 1 back");
        Due.duePoint(x, 3, 0, "2 0 0 0");
        Due.duePoint(x, 3, 1, "1 0 0 0");
        Due.mix(x, 3, "a back from 1");
        Due.duePoint(x, 3, 0, "0 0 0 0");
        Due.duePoint(x, 3, 1, "4 5 0 0");
        Due.due("mix of three", Due.mix(x, 3, "-2 a+3 b - 0 a"), 3);
        Due.duePoint(x, 3, 0, "-2 3 0 0");
        Due.due("mix into itself", Due.mix(x, 3, "+d+a"), 2);
        Due.duePoint(x, 3, 0, "-1 3 0 0");
        Due.due("fault()", x.fault(), 0);
    }

    private static void mixFault(String text, int kind, int place) {
        WheelPens x = withTwo();
        Due.due("mix(0) of " + text, Due.mix(x, 0, text), -1 - place);
        Due.due("fault() of " + text, x.fault(), kind);
        Due.duePoint(x, 0, 1, "2 0 0 0");
        Due.due("the tape is empty", x.count(4), 0);
    }

    private static void mixFaults() {
        mixFault("", 1, 0);
        mixFault("  ", 1, 2);
        mixFault("+", 1, 1);
        mixFault("++a", 1, 1);
        mixFault("5", 1, 1);
        mixFault("5 5 a", 1, 2);
        mixFault("5a", 1, 0);
        mixFault("i", 1, 0);
        mixFault("aa", 1, 0);
        mixFault("turn", 1, 0);
        mixFault("a b", 1, 2);
        mixFault("a 5", 1, 2);
        mixFault("a;", 1, 1);
        mixFault("a/", 1, 1);
        mixFault("a turn", 1, 6);
        mixFault("a turn -1", 1, 7);
        mixFault("a turn 1000", 1, 7);
        mixFault("a from back", 1, 7);
        mixFault("a mirror 1", 1, 9);
        mixFault("a mirrors", 1, 2);
        mixFault("a+", 1, 2);
        mixFault("d", 3, 0);
        mixFault("a+c", 3, 2);
        mixFault("a+h", 3, 2);
        mixFault("a+c turn", 3, 2);
        mixFault("a" + "+a".repeat(12), 2, 23);
        mixFault("a" + "+a".repeat(11) + "-", 2, 23);
        mixFault("+a" + "+a".repeat(11) + "-c", 2, 24);
        mixFault("a" + " ".repeat(200), 1, 200);
        mixFault("a" + " ".repeat(199) + "!", 1, 200);
        mixFault("a turn" + " ".repeat(193) + "1000", 1, 199);
        mixFault("a turn" + " ".repeat(193) + "100", 1, 200);
        mixFault("!" + " ".repeat(300), 1, 0);
        WheelPens x = withTwo();
        Due.due("200 bytes", Due.mix(x, 0, "a" + " ".repeat(199)), 1);
        Due.due("12 PARTS", Due.mix(x, 0, "-a" + "+a".repeat(11)), 12);
        Due.duePoint(x, 0, 1, "20 0 0 0");
    }

    private static void mixLimits() {
        WheelPens x = new WheelPens();
        Due.tell(x, 0, 100, 0, 0, -100, 0, 0);
        Due.due("100 times", Due.mix(x, 0, "100 a"), 1);
        Due.due("1000000", Due.mix(x, 1, "100 a"), 1);
        Due.duePoint(x, 1, 0, "1000000 0");
        Due.duePoint(x, 1, 1, "0 -1000000");
        Due.kit(x, "!");
        Due.due("more than 1000000", Due.mix(x, 1, "100 a+a"), -2000);
        Due.due("fault() of a text without one", x.fault(), 0);
        Due.due("below -1000000", Due.mix(x, 1, "-100 a-a"), -2000);
        Due.duePoint(x, 1, 0, "1000000 0");
        Due.due("only what comes out counts", Due.mix(x, 2, "999 b-998 b"), 2);
        Due.duePoint(x, 2, 0, "1000000 0");
        Due.kit(x, "ring r 2;");
        for (int s : WRONG) {
            Due.due("mix(" + s + ")", Due.mix(x, s, "!"), -1000);
            Due.due("fault() of the text read last", x.fault(), 2);
            Due.due("the tape is empty", x.count(4), 0);
        }
    }

    private static void wipeAndCount() {
        WheelPens x = withTwo();
        Due.due("count(3)", x.count(3), 3);
        Due.due("wipe(0)", x.wipe(0), true);
        Due.due("wipe(0)", x.wipe(0), false);
        Due.due("about(0, 0)", x.about(0, 0), -1);
        Due.dueThrow("point(0, 0, 0)", () -> x.point(0, 0, 0));
        Due.due("count(3)", x.count(3), 2);
        for (int s : WRONG) {
            Due.due("wipe(" + s + ")", x.wipe(s), false);
        }
    }

    private static void aboutAndPoint() {
        WheelPens x = new WheelPens();
        Due.tell(x, 0, 1, 0, 2, 0, 3, 0, 2, 0, 1, 0, 2, 0, 9, 0);
        long[] want = {7, 6, 4, 3, 3};
        for (int what = 0; what < 5; what++) {
            Due.due("about(0, " + what + ")", x.about(0, what), want[what]);
        }
        Due.due("about(0, 5)", x.about(0, 5), -1);
        Due.due("about(0, -1)", x.about(0, -1), -1);
        Due.tell(x, 1, 1, 0, 0, 1, 2, 0);
        Due.due("no POINT twice", x.about(1, 4), -1);
        Due.due("most often", x.about(1, 3), 1);
        int[] p = {2, 2, 4, 2, 6, 4, 6, 4, 10, 4, 12, 6, 8, 8, 16, 6, 18, 8, 12, 10, 22, 8, 20, 12, 18, 12, 28, 8, 30,
            16, 20, 16, 24, 12, 36, 18, 24, 16, 40, 12, 42, 20, 24, 22, 46, 16, 42, 20, 32, 24, 52, 18, 40, 24, 36, 28, 58, 16};
        for (int n = 3; n <= 60; n++) {
            Due.tell(x, 2, new int[2 * n]);
            Due.due("p of " + n, x.about(2, 1), p[n - 3]);
        }
        Due.dueThrow("point(0, 7, 0)", () -> x.point(0, 7, 0));
        Due.dueThrow("point(0, -1, 0)", () -> x.point(0, -1, 0));
        Due.dueThrow("point(0, 0, 6)", () -> x.point(0, 0, 6));
        Due.dueThrow("point(0, 0, -1)", () -> x.point(0, 0, -1));
        Due.dueThrow("point(7, 0, 0)", () -> x.point(7, 0, 0));
        for (int s : WRONG) {
            Due.due("about(" + s + ", 0)", x.about(s, 0), -1);
            Due.dueThrow("point(" + s + ", 0, 0)", () -> x.point(s, 0, 0));
        }
    }

    private static void sameAndArea() {
        WheelPens x = withSquare();
        x.draw(0, 0, 8);
        Due.due("TURNINGS", x.same(0, 0), 4);
        Due.due("MIRRORS", x.same(0, 1), 4);
        Due.due("DISTANCES", x.same(0, 2), 2);
        Due.due("same(0, 3)", x.same(0, 3), -1);
        Due.due("same(0, -1)", x.same(0, -1), -1);
        Due.due("AREA", x.area(0, 1), 36864);
        Due.due("AREA", x.area(0, 0), 0);
        Due.tell(x, 1, 5, 0, 5, 0, 0, 0, 0, 0);
        Due.due("a set, not how often: TURNINGS", x.same(1, 0), 1);
        Due.due("MIRRORS", x.same(1, 1), 1);
        Due.due("DISTANCES", x.same(1, 2), 2);
        Due.tell(x, 1, 5, 0, 5, 0, -5, 0, 0, 0);
        Due.due("5, -5 and 0, one twice: TURNINGS", x.same(1, 0), 2);
        Due.tell(x, 1, new int[8]);
        Due.due("all 0: TURNINGS", x.same(1, 0), 4);
        Due.due("all 0: MIRRORS", x.same(1, 1), 4);
        Due.due("all 0: DISTANCES", x.same(1, 2), 1);
        Due.tell(x, 1, 0, 0, 1, 2, 1, 3, 0, 0, 0, 0);
        Due.due("no mirror: TURNINGS", x.same(1, 0), 1);
        Due.due("no mirror: MIRRORS", x.same(1, 1), 0);
        Due.tell(x, 2, 1, 0, 0, 1, -1, -1);
        Due.due("AREA of a triangle", x.area(2, 0), 3);
        Due.due("AREA of a triangle", x.area(2, 1), 6);
        Due.dueThrow("area(2, 2)", () -> x.area(2, 2));
        Due.dueThrow("area(2, -1)", () -> x.area(2, -1));
        Due.dueThrow("area(7, 0)", () -> x.area(7, 0));
        for (int s : WRONG) {
            Due.due("same(" + s + ", 0)", x.same(s, 0), -1);
            Due.dueThrow("area(" + s + ", 0)", () -> x.area(s, 0));
        }
    }

    private static void oneAndAgain() {
        WheelPens x = withTwo();
        Due.due("one(0, 0)", x.one(0, 0), 0);
        Due.mix(x, 3, "a turn 4 from 2");
        Due.due("one(0, 3)", x.one(0, 3), 402);
        Due.due("one(3, 0)", x.one(3, 0), 103);
        Due.mix(x, 4, "a mirror turn 4 from 2");
        Due.due("one(0, 4)", x.one(0, 4), 10402);
        Due.due("one(0, 1)", x.one(0, 1), -1);
        Due.due("N are unlike", x.one(0, 2), -2);
        Due.due("one is none", x.one(0, 7), -2);
        Due.due("one is none", x.one(7, 0), -2);
        Due.tell(x, 5, new int[10]);
        Due.due("noughts", x.one(5, 5), 0);
        Due.due("SELVES of noughts", x.again(5, 1), 25);
        Due.due("PERIOD of noughts", x.again(5, 0), 1);
        Due.tell(x, 6, 1, 0, 2, 0, 1, 0, 2, 0, 1, 0, 2, 0);
        Due.due("PERIOD", x.again(6, 0), 2);
        Due.due("SELVES", x.again(6, 1), 3);
        Due.due("the least m", x.one(6, 6), 0);
        Due.mix(x, 7, "g from 3");
        Due.due("the least m", x.one(6, 7), 1);
        Due.tell(x, 6, 1, 0, -1, 0, 1, 0, -1, 0, 1, 0, -1, 0);
        Due.mix(x, 7, "-g");
        Due.due("the least n ahead of the least m", x.one(6, 7), 1);
        Due.due("SELVES with turnings", x.again(6, 1), 6);
        Due.due("PERIOD of a 0 that has none", x.again(0, 0), 5);
        Due.due("again(0, 2)", x.again(0, 2), -1);
        Due.due("again(0, -1)", x.again(0, -1), -1);
        for (int s : WRONG) {
            Due.due("one(" + s + ", 0)", x.one(s, 0), -2);
            Due.due("one(0, " + s + ")", x.one(0, s), -2);
            Due.due("again(" + s + ", 0)", x.again(s, 0), -1);
        }
    }

    private static void productAndShared() {
        WheelPens x = withTwo();
        Due.due("product(3, 0, 0)", x.product(3, 0, 0), 5);
        Due.duePoint(x, 3, 3, "16 40 25 0");
        Due.due("product(1, 1, 0)", x.product(1, 1, 0), 5);
        Due.duePoint(x, 1, 0, "0 1 0 0");
        Due.due("product into itself", x.product(3, 3, 3), 5);
        Due.duePoint(x, 3, 3, "-369 655 1775 1375");
        Due.due("N are unlike", x.product(4, 0, 2), -1);
        Due.due("one is none", x.product(4, 0, 7), -1);
        Due.due("one is none", x.product(4, 7, 0), -1);
        Due.due("count(3)", x.count(3), 4);
        Due.mix(x, 4, "800 a");
        Due.due("3200 times 3200", x.product(5, 4, 4), -2000);
        Due.due("it stays", x.about(5, 0), -1);
        Due.tell(x, 5, 100, 0, 0, 0, 0, 0);
        Due.mix(x, 5, "10 f");
        Due.due("1000 times 1000", x.product(6, 5, 5), 3);
        Due.duePoint(x, 6, 0, "1000000 0");
        for (int s : WRONG) {
            Due.due("product(" + s + ", 0, 0)", x.product(s, 0, 0), -1);
            Due.due("product(0, " + s + ", 0)", x.product(0, s, 0), -1);
            Due.due("product(0, 0, " + s + ")", x.product(0, 0, s), -1);
            Due.due("shared(" + s + ", 0)", x.shared(s, 0), -2);
            Due.due("shared(0, " + s + ")", x.shared(0, s), -2);
        }
        Due.tell(x, 0, 1, 0, 1, 0, 2, 0, 3, 0);
        Due.tell(x, 1, 2, 0, 1, 0, 2, 0, 5, 0);
        Due.due("shared(0, 1)", x.shared(0, 1), 2);
        Due.due("shared(1, 0)", x.shared(1, 0), 2);
        Due.due("shared(0, 0)", x.shared(0, 0), 3);
        Due.due("N are unlike", x.shared(0, 3), -2);
        Due.due("one is none", x.shared(0, 7), -2);
    }

    public static void main(String[] args) {
        draw();
        tell();
        mix();
        mixFaults();
        mixLimits();
        wipeAndCount();
        aboutAndPoint();
        sameAndArea();
        oneAndAgain();
        productAndShared();
        Due.report();
    }
}
