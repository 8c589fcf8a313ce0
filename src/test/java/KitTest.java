/** Promises 1 to 10 and 31: the tape, the KIT's text with its FAULTS, SPEEDS, PENS and ARMS. */
public final class KitTest {
    private static final String PLAIN = "ring r 96;wheel a 24 in r;pen p a 24;";

    private static void newObject() {
        WheelPens x = new WheelPens();
        for (int what = 0; what < 5; what++) {
            Due.due("count(" + what + ")", x.count(what), 0);
        }
        Due.due("count(5)", x.count(5), -1);
        Due.due("count(-1)", x.count(-1), -1);
        Due.due("fault()", x.fault(), 0);
        Due.due("wrong()", x.wrong(), -1);
        Due.due("backAt(0, 0)", x.backAt(0, 0), -1);
        Due.dueThrow("rightAt(0)", () -> x.rightAt(0));
        Due.dueThrow("madeAt(0, 0)", () -> x.madeAt(0, 0));
        Due.dueThrow("spin(0, 0)", () -> x.spin(0, 0));
        for (int s = 0; s < 8; s++) {
            Due.due("about(" + s + ", 0)", x.about(s, 0), -1);
        }
        Due.due("NONE", WheelPens.NONE, -1);
    }

    private static void tape() {
        WheelPens x = new WheelPens();
        for (int i = 1; i <= 32; i++) {
            Due.due("feed", x.feed(1, 2, 3, 4, 5), 20 * i);
        }
        Due.due("feed to 660", x.feed(1, 2, 3, 4, 5), -1);
        Due.due("count(4)", x.count(4), 640);
        Due.due("end(641)", x.end(641), false);
        Due.due("end(-1)", x.end(-1), false);
        Due.due("end of the least int", x.end(Integer.MIN_VALUE), false);
        Due.due("count(4)", x.count(4), 640);
        Due.due("end(640)", x.end(640), true);
        Due.due("end(621)", x.end(621), true);
        Due.due("feed to 641", x.feed(1, 2, 3, 4, 5), -1);
        Due.due("end(620)", x.end(620), true);
        Due.due("feed to 640", x.feed(1, 2, 3, 4, 5), 640);
        Due.due("end(6)", x.end(6), true);
        Due.due("end(7)", x.end(7), false);
        Due.due("tell(0): 0 0, 0 1, 0 0", x.tell(0), 3);
        Due.duePoint(x, 0, 1, "0 1");
        Due.due("count(4)", x.count(4), 0);
        x.feed(0x01020304, 0x05060000, -1, 0x80000000, 0);
        x.end(6);
        x.tell(0);
        Due.duePoint(x, 0, 0, "1 2");
        Due.duePoint(x, 0, 2, "5 6");
        x.feed(0, 0, -1, 0x80000000, 0);
        x.end(14);
        Due.due("tell(0)", x.tell(0), 7);
        Due.duePoint(x, 0, 5, "-1 -1 0 0 0 0");
        Due.duePoint(x, 0, 6, "-128 0 0 0 0 0");
    }

    private static void fault(String text, int kind, int place) {
        WheelPens x = new WheelPens();
        Due.kit(x, PLAIN);
        Due.due("kit() of " + text, Due.kit(x, text), -1 - place);
        Due.due("fault() of " + text, x.fault(), kind);
        Due.due("the KIT stays: PENS", x.count(2), 1);
        Due.due("the KIT stays: SPIN", x.spin(0, 0), -3);
        Due.due("the tape is empty", x.count(4), 0);
    }

    private static void whole(String text, int lines) {
        WheelPens x = new WheelPens();
        Due.kit(x, "ring;");
        Due.due("kit() of " + text, Due.kit(x, text), lines);
        Due.due("fault() of " + text, x.fault(), 0);
        Due.due("the tape is empty", x.count(4), 0);
    }

    private static String repeat(String line, int times) {
        StringBuilder all = new StringBuilder();
        for (int i = 0; i < times; i++) {
            all.append(line.replace('_', (char) ('a' + i)));
        }
        return all.toString();
    }

    private static void wholeTexts() {
        whole("", 0);
        whole(" \n ", 0);
        whole(PLAIN, 3);
        whole("\nring\nr\n96 ; wheel a 024 in r;", 2);
        whole("ring r 3;ring rr 200;", 2);
        whole("ring rings 003;", 1);
        whole("ring abcdef 9;wheel a 200 on abcdef at 0/1;pen p a-0;", 3);
        whole("ring r 9;wheel a 8 in r at-99/99;pen b a 200;", 3);
        whole(repeat("ring _ 9;", 4) + repeat("wheel x_ 3 on a;", 12) + repeat("pen y_ xa 1;", 8), 24);
        whole("ring r 9;wheel a 3 on r;wheel b 3 on a;wheel c 3 on b;wheel d 3 on c;", 5);
        whole("ring r 200;wheel a 50 on r at 99/1;wheel b 3 on a at - 99/1;", 3);
        whole("ring r 198;wheel a 54 on r at 99/1;wheel b 3 in a at - 99/1;", 3);
        whole("ring r 99;wheel a 101 on r at 1/99;", 2);
    }

    private static void faultsOfTokens() {
        fault("x", 1, 0);
        fault(";", 1, 0);
        fault("9", 1, 0);
        fault("ring", 1, 4);
        fault("ring ", 1, 5);
        fault("ring 9", 1, 5);
        fault("ring r", 1, 6);
        fault("ring r r", 1, 7);
        fault("ring r 9", 1, 8);
        fault("ring r 9 9;", 1, 9);
        fault("ring r9 9;", 1, 5);
        fault("ring r 9r;", 1, 7);
        fault("ring r 0009;", 1, 7);
        fault("ring abcdefg 9;", 1, 5);
        fault("ring R 9;", 1, 5);
        fault("ring r\t9;", 1, 6);
        fault("ring r 9.", 1, 8);
        fault("ring r + 9;", 1, 7);
        fault("ring r - 9;", 1, 7);
        for (String taken : new String[] {"ring", "wheel", "pen", "in", "on", "at"}) {
            fault("ring " + taken + " 9;", 1, 5);
            fault("ring r 9;wheel a 5 in " + taken + ";", 1, 22);
        }
        fault("ring r 9;wheel a 5 at r;", 1, 19);
        fault("ring r 9;wheel a 5 in r at;", 1, 26);
        fault("ring r 9;wheel a 5 in r at 1;", 1, 28);
        fault("ring r 9;wheel a 5 in r at 1/;", 1, 29);
        fault("ring r 9;wheel a 5 in r at + 1/1;", 1, 27);
        fault("ring r 9;wheel a 5 in r at 1/-1;", 1, 29);
        fault("ring r 9;wheel a 5 in r at 1/1 at 1/1;", 1, 31);
        fault("ring r 9;wheel a 5 in r;pen p a;", 1, 31);
        fault("ring r 9;wheel a 5 in r;pen p a - - 5;", 1, 34);
        fault("ring r 9;wheel a 5 in r;pen p a 5", 1, 33);
    }

    private static void faultsOfMeaning() {
        fault("ring r 2;", 2, 7);
        fault("ring r 201;", 2, 7);
        fault("ring r 9;wheel a 2 in r;", 2, 17);
        fault("ring r 9;wheel a 9 in r;", 2, 22);
        fault("ring r 9;wheel a 5 in r at 100/1;", 2, 27);
        fault("ring r 9;wheel a 5 in r at 1/0;", 2, 29);
        fault("ring r 9;wheel a 5 in r at 1/100;", 2, 29);
        fault("ring r 9;wheel a 5 in r;pen p a 201;", 2, 32);
        fault("ring r 9;ring r 9;", 3, 14);
        fault("ring r 9;wheel r 5 in r;", 3, 15);
        fault("ring r 9;wheel a 5 in r;pen a a 5;", 3, 28);
        fault("ring r 9;wheel a 5 in q;", 3, 22);
        fault("ring r 9;wheel a 5 on a;", 3, 22);
        fault("ring r 9;wheel a 5 in r;pen p a 5;wheel b 3 on p;", 3, 47);
        fault("ring r 9;pen p r 5;", 3, 15);
        fault("ring r 9;pen p p 5;", 3, 15);
        fault(repeat("ring _ 9;", 5), 4, 36);
        fault(repeat("ring _ 9;", 4) + "ring", 4, 36);
        fault("ring r 9;" + repeat("wheel x_ 3 on r;", 13), 4, 9 + 12 * 16);
        fault("ring r 9;wheel a 5 in r;" + repeat("pen x_ a 0;", 9), 4, 24 + 8 * 11);
        String four = "ring r 9;wheel a 3 on r;wheel b 3 on a;wheel c 3 on b;wheel d 3 on c;";
        fault(four + "wheel e 4 on d;", 4, 69 + 13);
        fault(four + "wheel e 4 in d;", 2, 69 + 13);
        fault("ring r 198;wheel a 66 on r at 99/1;wheel b 3 on a at - 56/1;", 5, 59);
        fault("ring r 3;wheel a 200 on r at 1/50;", 5, 33);
        fault("ring r 3;wheel a 200 on r at 1/50 ;", 5, 34);
        fault("ring r 3;wheel a 200 on r at 1/50 x", 1, 34);
        fault("ring r 3;wheel a 200 on r at 1/50", 1, 33);
    }

    private static String padded(String front, int to, String behind) {
        return front + " ".repeat(to - front.length()) + behind;
    }

    private static void longTexts() {
        whole(padded(PLAIN, 600, ""), 3);
        fault(padded(PLAIN, 601, ""), 1, 600);
        fault(padded(PLAIN, 640, ""), 1, 600);
        fault(padded(PLAIN, 600, "ring"), 1, 600);
        fault(padded(PLAIN, 600, "!"), 1, 600);
        fault(padded("!", 640, ""), 1, 0);
        whole(padded("ring r 9", 599, ";"), 1);
        fault(padded("ring r 9", 600, ";"), 1, 600);
        fault(padded("ring r", 599, "100;"), 1, 600);
        fault(padded("ring r", 599, "201;"), 2, 599);
        fault(padded("ring r", 598, "1000;"), 1, 598);
        fault(padded("ring", 599, "abcdef 2;"), 1, 600);
        fault(padded("ring", 599, "abcdefg"), 1, 599);
        fault(padded("ring r 9;ring", 599, "rr 2;"), 1, 600);
    }

    private static void speeds() {
        WheelPens x = new WheelPens();
        Due.kit(x, "ring r 96;wheel a 24 in r;wheel b 24 on r;wheel c 12 on a at 5/2;wheel d 36 in r at - 2/4;"
            + "wheel e 24 in r at 0/7;");
        Due.due("WHEELS", x.count(1), 5);
        Due.due("RINGS", x.count(0), 1);
        long[][] spins = {{-3, 1}, {5, 1}, {27, 2}, {5, 6}, {0, 1}};
        for (int w = 0; w < spins.length; w++) {
            Due.due("spin(" + w + ", 0)", x.spin(w, 0), spins[w][0]);
            Due.due("spin(" + w + ", 1)", x.spin(w, 1), spins[w][1]);
        }
        Due.dueThrow("spin(5, 0)", () -> x.spin(5, 0));
        Due.dueThrow("spin(-1, 0)", () -> x.spin(-1, 0));
        Due.dueThrow("spin(0, 2)", () -> x.spin(0, 2));
        Due.dueThrow("spin(0, -1)", () -> x.spin(0, -1));
    }

    private static void arm(WheelPens x, int pen, int i, long winding, long length) {
        Due.due("arm(" + pen + ", " + i + ", 0)", x.arm(pen, i, 0), winding);
        Due.due("arm(" + pen + ", " + i + ", 1)", x.arm(pen, i, 1), length);
    }

    private static void pens() {
        WheelPens x = new WheelPens();
        Due.kit(x, "ring r 96;wheel a 24 in r;wheel b 12 on a at 5/2;wheel c 12 on r at 0/1;wheel d 12 on a;"
            + "pen p a - 24;pen q b 6;pen s b 0;pen t c - 108;pen u c 1;pen v d 0;pen w d - 5;");
        Due.due("PENS", x.count(2), 7);
        Due.due("arms(0)", x.arms(0), 2);
        arm(x, 0, 0, -3, -24);
        arm(x, 0, 1, 1, 72);
        Due.due("closes(0)", x.closes(0), 1);
        Due.due("lobes(0)", x.lobes(0), 4);
        Due.due("closes(1)", x.closes(1), 2);
        arm(x, 1, 0, 2, 72);
        arm(x, 1, 1, 5, 36);
        arm(x, 1, 2, 27, 6);
        Due.due("lobes(1)", x.lobes(1), 1);
        Due.due("OUT 0 is no ARM", x.arms(2), 2);
        Due.due("lobes(2)", x.lobes(2), 3);
        Due.due("ARMS that cancel are none", x.arms(3), 0);
        Due.due("closes without ARMS", x.closes(3), 1);
        Due.due("lobes without ARMS", x.lobes(3), 0);
        Due.dueThrow("arm(3, 0, 0)", () -> x.arm(3, 0, 0));
        Due.due("ARMS of one speed are one", x.arms(4), 1);
        arm(x, 4, 0, 0, 109);
        Due.due("lobes of one ARM", x.lobes(4), 0);
        Due.due("ARMS of both WHEELS are one", x.arms(5), 1);
        arm(x, 5, 0, 1, 108);
        Due.due("spin(3, 0): 1 - (-3 - 1) 24 / 12", x.spin(3, 0), 9);
        arm(x, 6, 1, 9, -5);
        Due.due("lobes(6)", x.lobes(6), 8);
        for (int pen : new int[] {-1, 7, Integer.MIN_VALUE, Integer.MAX_VALUE}) {
            Due.due("closes(" + pen + ")", x.closes(pen), -1);
            Due.due("arms(" + pen + ")", x.arms(pen), -1);
            Due.due("lobes(" + pen + ")", x.lobes(pen), -1);
            Due.dueThrow("arm(" + pen + ", 0, 0)", () -> x.arm(pen, 0, 0));
        }
        Due.dueThrow("arm(0, 2, 0)", () -> x.arm(0, 2, 0));
        Due.dueThrow("arm(0, -1, 0)", () -> x.arm(0, -1, 0));
        Due.dueThrow("arm(0, 0, 2)", () -> x.arm(0, 0, 2));
        Due.dueThrow("arm(0, 0, -1)", () -> x.arm(0, 0, -1));
    }

    /** Speeds that are whole together only after many turns. */
    private static void longWay() {
        WheelPens x = new WheelPens();
        Due.kit(x, "ring r 94;wheel a 3 on r at 1/97;wheel b 80 on a at 1/83;wheel c 9 on b at 1/89;"
            + "wheel d 70 on c at 1/79;pen p d 1;pen q d 0;");
        long c = 97L * 83 * 89 * 79;
        Due.due("fault()", x.fault(), 0);
        Due.due("spin(3, 0)", x.spin(3, 0), 0);
        Due.due("spin(3, 1)", x.spin(3, 1), 1);
        Due.due("closes(0)", x.closes(0), c);
        arm(x, 0, 0, 0, 1);
        arm(x, 0, 1, c / 97, 97);
        arm(x, 0, 2, c / 89, 89);
        arm(x, 0, 3, c / 83, 83);
        arm(x, 0, 4, c / 79, 79);
        Due.due("lobes(0)", x.lobes(0), 1);
        Due.due("arms(1)", x.arms(1), 4);
        Due.kit(x, "ring r 3;wheel a 3 on r at 1/97;wheel b 3 on a at 0/1;wheel c 3 on b at 2/97;wheel d 3 on c at 1/2;");
        Due.due("spin(3, 0)", x.spin(3, 0), 91);
        Due.due("spin(3, 1)", x.spin(3, 1), 97);
    }

    public static void main(String[] args) {
        newObject();
        tape();
        wholeTexts();
        faultsOfTokens();
        faultsOfMeaning();
        longTexts();
        speeds();
        pens();
        longWay();
        Due.report();
    }
}
