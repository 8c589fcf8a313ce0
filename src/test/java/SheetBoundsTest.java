import java.util.Arrays;

/** The bounds that parts 2 and 3 of the Terms and promises 11 to 22 name, sentence by sentence: the
    last input inside, the first one outside, and what calls answer behind a refused one. */
public final class SheetBoundsTest {
    private static final int[] NO_SHEETS = {-1, 8, 9, Integer.MIN_VALUE, Integer.MAX_VALUE};
    private static final int[] FAR = {Integer.MIN_VALUE, Integer.MAX_VALUE};
    /** How many numbers from 1 to N have no divisor in common with N, from N = 3 on. */
    private static final int[] P = {2, 2, 4, 2, 6, 4, 6, 4, 10, 4, 12, 6, 8, 8, 16, 6, 18, 8, 12, 10, 22, 8, 20, 12, 18, 12, 28, 8,
        30, 16, 20, 16, 24, 12, 36, 18, 24, 16, 40, 12, 42, 20, 24, 22, 46, 16, 42, 20, 32, 24, 52, 18, 40, 24, 36, 28, 58, 16};

    private static WheelPens withPens() {
        WheelPens x = new WheelPens();
        Due.kit(x, "ring r 96;wheel a 24 in r;pen p a 24;wheel c 12 on r at 0/1;pen t c - 108;");
        return x;
    }

    /** SHEETS a and b of 5, c of 4, d of 3; e to h are none. */
    private static WheelPens withSheets() {
        WheelPens x = new WheelPens();
        Due.tell(x, 0, 1, 0, 2, 0, 3, 0, 4, 5, 0, 0);
        Due.tell(x, 1, 0, 1, 0, 0, 0, 0, 0, 0, 0, 0);
        Due.tell(x, 2, 7, 0, 0, 1, 0, 0, 0, 0);
        Due.tell(x, 3, 100, 0, 0, -100, 0, 0);
        return x;
    }

    private static void draw() {
        Due.says("Promise 11: NONE: no such ones (a SHEET of 0 .. 7, a PEN, N of 3 to 60)");
        WheelPens x = withPens();
        Due.due("the least N", x.draw(0, 0, 3), 3);
        Due.due("the greatest N", x.draw(7, 0, 60), 60);
        Due.due("N of the first SHEET", x.about(0, 0), 3);
        Due.due("N of the last SHEET", x.about(7, 0), 60);
        Due.due("the last PEN", x.draw(1, 1, 59), 1);
        for (int n : new int[] {2, 61, 1, 0, -3, FAR[0], FAR[1]}) {
            Due.due("draw(0, 0, " + n + ")", x.draw(0, 0, n), -1);
        }
        for (int pen : new int[] {-1, 2, 8, FAR[0], FAR[1]}) {
            Due.due("draw(0, " + pen + ", 8)", x.draw(0, pen, 8), -1);
        }
        for (int s : NO_SHEETS) {
            Due.due("draw(" + s + ", 0, 8)", x.draw(s, 0, 8), -1);
        }
        Due.due("the SHEET stays", x.about(0, 0), 3);
        Due.due("no SHEET came", x.count(3), 3);
        Due.due("a SHEET that is none", new WheelPens().draw(0, 0, 8), -1);
        Due.due("a SHEET that is is drawn anew", x.draw(0, 0, 4), 4);
        Due.due("its N", x.about(0, 0), 4);
        for (int n = 3; n <= 60; n++) {
            x.draw(2, 0, n);
            Due.due("p of " + n, x.about(2, 1), P[n - 3]);
        }
    }

    private static void windingsComeRound() {
        Due.says("DRAWN: length times z^(WINDING times k), whatever the WINDING");
        WheelPens x = new WheelPens();
        Due.kit(x, "ring r 52;wheel a 42 on r at 91/1;wheel b 8 in a at - 85/2;pen p b 1;");
        Due.due("the least WINDING", x.arm(0, 0, 0), -340);
        Due.due("the greatest WINDING", x.arm(0, 2, 0), 9999);
        x.draw(0, 0, 4);
        Due.duePoint(x, 0, 1, "128 -1");
        Due.kit(x, "ring r 83;wheel a 137 on r at 87/88;wheel b 101 on a at - 92/51;wheel c 183 on b at 47/71;"
            + "wheel d 149 on c at 47/83;pen p d 1;");
        Due.due("after more turns than an int holds", x.closes(0), 3940719816L);
        Due.due("the least WINDING", x.arm(0, 0, 0), -17107308284L);
        Due.due("the greatest WINDING", x.arm(0, 4, 0), 3895938909L);
        x.draw(0, 0, 4);
        Due.duePoint(x, 0, 1, "855 220");
        x.draw(0, 0, 3);
        Due.duePoint(x, 0, 1, "598 -237");
    }

    private static void tell() {
        Due.says("Promise 12: two bytes each (below 0 as 256 more)");
        WheelPens x = new WheelPens();
        Due.due("tell", Due.tell(x, 0, 0, 1, 127, 128, 255, 129), 3);
        Due.duePoint(x, 0, 0, "0 1");
        Due.duePoint(x, 0, 1, "127 -128");
        Due.duePoint(x, 0, 2, "-1 -127");
        Due.says("Promise 12: NONE: not 3 to 60 pairs");
        for (int bytes = 0; bytes <= 130; bytes++) {
            boolean right = bytes % 2 == 0 && bytes >= 6 && bytes <= 120;
            int ahead = x.about(0, 0);
            Due.due("tell of " + bytes + " bytes", Due.tell(x, 0, new int[bytes]), right ? bytes / 2 : -1);
            Due.due("N behind it", x.about(0, 0), right ? bytes / 2 : ahead);
            Due.due("the tape behind it", x.count(4), 0);
        }
        Due.due("tell of 640 bytes", Due.tell(x, 0, new int[640]), -1);
        Due.says("Promise 12: NONE: no such SHEET");
        for (int s : NO_SHEETS) {
            Due.due("tell(" + s + ")", Due.tell(x, s, 1, 0, 0, 1, 0, 0), -1);
            Due.due("the tape behind it", x.count(4), 0);
        }
        Due.due("the last SHEET", Due.tell(x, 7, 1, 0, 0, 1, 0, 0), 3);
        Due.due("SHEETS that are", x.count(3), 2);
    }

    /** The MIX has a FAULT where the text has its @; nothing but fault() and the tape changes. */
    private static void mixFaultAt(String marked, int kind) {
        int place = marked.indexOf('@');
        String text = marked.substring(0, place) + marked.substring(place + 1);
        WheelPens x = withSheets();
        Due.kit(x, kind == 1 ? "ring r 2;" : "!");
        Due.due("mix(0) of " + text, Due.mix(x, 0, text), -1 - place);
        Due.due("fault() of " + text, x.fault(), kind);
        Due.due("the tape behind " + text, x.count(4), 0);
        Due.due("mix(7) of " + text, Due.mix(x, 7, text), -1 - place);
        Due.due("SHEETS behind " + text, x.count(3), 4);
        Due.duePoint(x, 0, 3, "4 5 0 0");
    }

    private static WheelPens mixed(String text, int parts) {
        WheelPens x = withSheets();
        Due.kit(x, "!");
        Due.due("mix(6) of " + text, Due.mix(x, 6, text), parts);
        Due.due("fault() of " + text, x.fault(), 0);
        Due.due("the tape behind " + text, x.count(4), 0);
        return x;
    }

    private static void duePoints(WheelPens x, int sheet, String... points) {
        Due.due("N of SHEET " + sheet, x.about(sheet, 0), points.length);
        for (int k = 0; k < points.length; k++) {
            Due.duePoint(x, sheet, k, points[k]);
        }
    }

    private static String padded(String text, int bytes) {
        return text + " ".repeat(bytes - text.length());
    }

    private static void bytesOfAMix() {
        Due.says("A MIX is a text of at most 200 bytes");
        mixed(padded("a", 199), 1);
        mixed(padded("a", 200), 1);
        mixed(" ".repeat(199) + "a", 1);
        mixFaultAt(padded("a", 200) + "@ ", 1);
        mixFaultAt(padded("a", 200) + "@!", 1);
        mixFaultAt(padded("a", 200) + "@+a", 1);
        mixFaultAt(padded("a", 200) + "@" + " ".repeat(440), 1);
        mixFaultAt(" ".repeat(200) + "@a", 1);
        mixFaultAt(" ".repeat(199) + "@!a", 1);
        mixFaultAt("@!" + " ".repeat(300), 1);
        mixFaultAt("@e" + " ".repeat(300), 3);
        mixFaultAt(padded("a" + "+a".repeat(11), 199) + "@+a", 2);
        mixFaultAt(padded("a" + "+a".repeat(11), 200) + "@+a", 1);
        mixFaultAt(padded("a turn", 199) + "9@9", 1);
        mixFaultAt(padded("a turn", 199) + "@9999", 1);
        mixFaultAt(padded("a", 199) + "@mirrors", 1);
        mixFaultAt(padded("a", 199) + "m@irror", 1);
    }

    private static void tokensOfAMix() {
        Due.says("a sign + or - ahead of each PART but the first, where it may be left out");
        duePoints(mixed("a", 1), 6, "1 0 0 0", "2 0 0 0", "3 0 0 0", "4 5 0 0", "0 0 0 0");
        duePoints(mixed("+a", 1), 6, "1 0 0 0", "2 0 0 0", "3 0 0 0", "4 5 0 0", "0 0 0 0");
        duePoints(mixed("-a", 1), 6, "-1 0 0 0", "-2 0 0 0", "-3 0 0 0", "-4 -5 0 0", "0 0 0 0");
        duePoints(mixed("-a-b", 2), 6, "-1 -1 0 0", "-2 0 0 0", "-3 0 0 0", "-4 -5 0 0", "0 0 0 0");
        duePoints(mixed("+a\n+ b", 2), 6, "1 1 0 0", "2 0 0 0", "3 0 0 0", "4 5 0 0", "0 0 0 0");
        mixFaultAt("a @b", 1);
        mixFaultAt("a @2 b", 1);
        mixFaultAt("a + @+ b", 1);
        mixFaultAt("- @- a", 1);
        mixFaultAt("a turn 1 @b", 1);
        mixFaultAt("a mirror @b", 1);
        Due.says("[ NUMBER ]: 1 without it; NUMBER times the SHEET");
        duePoints(mixed("0 a", 1), 6, "0 0 0 0", "0 0 0 0", "0 0 0 0", "0 0 0 0", "0 0 0 0");
        duePoints(mixed("1 b", 1), 6, "0 1 0 0", "0 0 0 0", "0 0 0 0", "0 0 0 0", "0 0 0 0");
        duePoints(mixed("-999 b", 1), 6, "0 -999 0 0", "0 0 0 0", "0 0 0 0", "0 0 0 0", "0 0 0 0");
        duePoints(mixed("012 b", 1), 6, "0 12 0 0", "0 0 0 0", "0 0 0 0", "0 0 0 0", "0 0 0 0");
        mixFaultAt("@1000 b", 1);
        mixFaultAt("@0001 b", 1);
        mixFaultAt("@2b", 1);
        mixFaultAt("2 @2 b", 1);
        mixFaultAt("2@", 1);
        mixFaultAt("2 @-b", 1);
        mixFaultAt("2 @turn 1", 1);
        Due.says("SHEET: a to h, one letter");
        mixFaultAt("@i", 1);
        mixFaultAt("@z", 1);
        mixFaultAt("@aa", 1);
        mixFaultAt("@ab", 1);
        mixFaultAt("@A", 1);
        mixFaultAt("@`", 1);
        mixFaultAt("@turn", 1);
        mixFaultAt("a+@back", 1);
        for (int s = 0; s < 8; s++) {
            WheelPens x = new WheelPens();
            Due.tell(x, s, s + 1, 0, 0, 1, 0, 0);
            Due.due("a MIX of SHEET " + s, Due.mix(x, 7 - s, String.valueOf((char) ('a' + s))), 1);
            Due.duePoint(x, 7 - s, 0, (s + 1) + " 0");
        }
    }

    private static void changesOfAMix() {
        Due.says("turn n: times z^n");
        duePoints(mixed("b turn 0", 1), 6, "0 1 0 0", "0 0 0 0", "0 0 0 0", "0 0 0 0", "0 0 0 0");
        Due.duePoint(mixed("b turn 3", 1), 6, 0, "-1 -1 -1 -1");
        Due.duePoint(mixed("b turn 4", 1), 6, 0, "1 0 0 0");
        Due.duePoint(mixed("b turn 5", 1), 6, 0, "0 1 0 0");
        Due.duePoint(mixed("b turn 999", 1), 6, 0, "1 0 0 0");
        Due.duePoint(mixed("b turn 999 turn 999 turn 999", 1), 6, 0, "0 0 0 1");
        Due.says("from n: POINT k is that of k + n (further on they come round)");
        duePoints(mixed("a from 0", 1), 6, "1 0 0 0", "2 0 0 0", "3 0 0 0", "4 5 0 0", "0 0 0 0");
        duePoints(mixed("a from 4", 1), 6, "0 0 0 0", "1 0 0 0", "2 0 0 0", "3 0 0 0", "4 5 0 0");
        duePoints(mixed("a from 5", 1), 6, "1 0 0 0", "2 0 0 0", "3 0 0 0", "4 5 0 0", "0 0 0 0");
        duePoints(mixed("a from 6", 1), 6, "2 0 0 0", "3 0 0 0", "4 5 0 0", "0 0 0 0", "1 0 0 0");
        duePoints(mixed("a from 999", 1), 6, "0 0 0 0", "1 0 0 0", "2 0 0 0", "3 0 0 0", "4 5 0 0");
        duePoints(mixed("a from 1 from 3", 1), 6, "0 0 0 0", "1 0 0 0", "2 0 0 0", "3 0 0 0", "4 5 0 0");
        duePoints(mixed("a from 1 back from 3", 1), 6, "4 5 0 0", "3 0 0 0", "2 0 0 0", "1 0 0 0", "0 0 0 0");
        Due.says("back: POINT k is that of - k (back they come round)");
        duePoints(mixed("a back", 1), 6, "1 0 0 0", "0 0 0 0", "4 5 0 0", "3 0 0 0", "2 0 0 0");
        duePoints(mixed("a back back", 1), 6, "1 0 0 0", "2 0 0 0", "3 0 0 0", "4 5 0 0", "0 0 0 0");
        duePoints(mixed("a back from 999", 1), 6, "2 0 0 0", "1 0 0 0", "0 0 0 0", "4 5 0 0", "3 0 0 0");
        duePoints(mixed("a from 999 back", 1), 6, "0 0 0 0", "4 5 0 0", "3 0 0 0", "2 0 0 0", "1 0 0 0");
        Due.says("MIRRORED: z^k becomes z^(N - k)");
        duePoints(mixed("a mirror", 1), 6, "1 0 0 0", "2 0 0 0", "3 0 0 0", "-1 -5 -5 -5", "0 0 0 0");
        duePoints(mixed("a mirror mirror", 1), 6, "1 0 0 0", "2 0 0 0", "3 0 0 0", "4 5 0 0", "0 0 0 0");
        Due.says("changed one by one as told");
        Due.duePoint(mixed("b turn 1 mirror", 1), 6, 0, "0 0 0 1");
        Due.duePoint(mixed("b mirror turn 1", 1), 6, 0, "1 0 0 0");
        Due.duePoint(mixed("b mirror turn 2 mirror turn 2", 1), 6, 0, "0 1 0 0");
        mixFaultAt("a turn@", 1);
        mixFaultAt("a turn @-1", 1);
        mixFaultAt("a turn @1000", 1);
        mixFaultAt("a turn @from 1", 1);
        mixFaultAt("a from@", 1);
        mixFaultAt("a from @b", 1);
        mixFaultAt("a turn 1 @1", 1);
        mixFaultAt("a mirror @1", 1);
        mixFaultAt("a back @1", 1);
        mixFaultAt("a @turns 1", 1);
        mixFaultAt("a @;", 1);
        mixFaultAt("a @/", 1);
    }

    private static void partsOfAMix() {
        Due.says("1 to 12 PARTS");
        mixFaultAt("@", 1);
        mixFaultAt("  \n@", 1);
        mixFaultAt("+@", 1);
        mixFaultAt("a-@", 1);
        mixFaultAt("a+b- @", 1);
        mixed("b", 1);
        mixed("b" + "+b".repeat(10), 11);
        Due.duePoint(mixed("b" + "+b".repeat(11), 12), 6, 0, "0 12 0 0");
        Due.duePoint(mixed("-b" + "-b".repeat(11), 12), 6, 0, "0 -12 0 0");
        Due.says("2 a 13th PART (at its sign)");
        mixFaultAt("b" + "+b".repeat(11) + "@+b", 2);
        mixFaultAt("b" + "+b".repeat(11) + " \n@- 2 b turn 1", 2);
        mixFaultAt("-b" + "+b".repeat(11) + "@+e", 2);
        mixFaultAt("b" + "+b".repeat(11) + "@+!", 2);
        mixFaultAt("b" + "+b".repeat(11) + "@+b+b", 2);
        mixFaultAt("b" + "+b".repeat(11) + " @b", 1);
        mixFaultAt("b" + "+b".repeat(10) + "+@!+b", 1);
        Due.says("3 a SHEET that is none, or of another N than the first one (at it)");
        mixFaultAt("@e", 3);
        mixFaultAt("-2 @h turn 1", 3);
        mixFaultAt("a+@e", 3);
        mixFaultAt("a+2 @c", 3);
        mixFaultAt("c-@a", 3);
        mixFaultAt("a+b+@d", 3);
        mixFaultAt("a+@d turn", 3);
        mixFaultAt("a turn @d", 1);
        mixFaultAt("a+@e !", 3);
        WheelPens x = withSheets();
        x.wipe(1);
        Due.due("a SHEET that was wiped", Due.mix(x, 0, "a+b"), -3);
        Due.due("fault()", x.fault(), 3);
        Due.due("it may be the one that is told", Due.mix(x, 1, "a+a"), 2);
        Due.duePoint(x, 1, 3, "8 10 0 0");
        Due.due("a SHEET of another N is told anew", Due.mix(x, 2, "a"), 1);
        Due.due("its N", x.about(2, 0), 5);
        Due.due("into one of its own", Due.mix(x, 0, "a from 1 - a"), 2);
        duePoints(x, 0, "1 0 0 0", "1 0 0 0", "1 5 0 0", "-4 -5 0 0", "1 0 0 0");
    }

    private static void greatNumbers() {
        Due.says("Numbers of a SHEET are 1000000 at most, without sign; -2000 (It stays, then)");
        WheelPens x = withSheets();
        Due.mix(x, 4, "100 d");
        Due.due("1000000", Due.mix(x, 5, "100 e"), 1);
        duePoints(x, 5, "1000000 0", "0 -1000000", "0 0");
        Due.due("-1000000", Due.mix(x, 5, "-100 e"), 1);
        duePoints(x, 5, "-1000000 0", "0 1000000", "0 0");
        Due.tell(x, 6, 1, 0, 0, 0, 0, 0);
        Due.kit(x, "!");
        Due.due("1000001", Due.mix(x, 5, "100 e+g"), -2000);
        Due.says("-2000: the text was read without a FAULT");
        Due.due("fault()", x.fault(), 0);
        Due.due("the tape", x.count(4), 0);
        duePoints(x, 5, "-1000000 0", "0 1000000", "0 0");
        Due.due("999999", Due.mix(x, 7, "100 e-g"), 2);
        Due.duePoint(x, 7, 0, "999999 0");
        Due.tell(x, 6, 0, 0, 0, -1, 0, 0);
        Due.due("-1000001 in a second number", Due.mix(x, 5, "100 e+g"), -2000);
        Due.tell(x, 6, 0, 0, 0, 1, 0, 0);
        Due.due("-999999 in a second number", Due.mix(x, 5, "100 e+g"), 2);
        duePoints(x, 5, "1000000 0", "0 -999999", "0 0");
        Due.due("only what comes out counts", Due.mix(x, 4, "999 f-998 f"), 2);
        duePoints(x, 4, "1000000 0", "0 -999999", "0 0");
        Due.due("into one of its own", Due.mix(x, 4, "2 e"), -2000);
        duePoints(x, 4, "1000000 0", "0 -999999", "0 0");
        Due.due("into one that is none", x.wipe(7), true);
        Due.due("into one that is none", Due.mix(x, 7, "2 e"), -2000);
        Due.due("it is none still", x.about(7, 0), -1);
        Due.says("Numbers of a SHEET: each one of each POINT");
        for (int at = 0; at < 12; at++) {
            int[] pairs = new int[12];
            pairs[at] = at % 3 == 0 ? -100 : 100;
            Due.tell(x, 0, pairs);
            Due.mix(x, 0, "100 a");
            Due.due("1000000 at " + at, Due.mix(x, 1, "100 a"), 1);
            Due.due("1010000 at " + at, Due.mix(x, 1, "101 a"), -2000);
            Due.tell(x, 2, 101, 0, 101, 0, 101, 0, 101, 0, 101, 0, 101, 0);
            Due.due("1010000 at " + at, x.product(1, 0, 2), -2000);
        }
        int[] last = new int[118];
        last[116] = 100;
        Due.tell(x, 0, last);
        Due.mix(x, 0, "100 a turn 57");
        Due.due("1000000 z^57", Due.mix(x, 1, "100 a"), 1);
        Due.due("the last number of the last POINT", x.point(1, 58, 57), 1000000);
        Due.due("1010000 z^57", Due.mix(x, 1, "101 a"), -2000);
    }

    private static void noSheetForAMix() {
        Due.says("Promise 13: -1000: no such SHEET");
        WheelPens x = withSheets();
        Due.kit(x, "ring r 2;");
        for (int s : NO_SHEETS) {
            for (String text : new String[] {"a", "", "!", "e"}) {
                Due.due("mix(" + s + ") of " + text, Due.mix(x, s, text), -1000);
                Due.due("fault() of the text read last", x.fault(), 2);
                Due.due("the tape", x.count(4), 0);
            }
        }
        Due.due("the last SHEET", Due.mix(x, 7, "a"), 1);
        Due.due("fault()", x.fault(), 0);
    }

    private static void wipe() {
        Due.says("Promise 14: false: no such one, or it is none");
        WheelPens x = withSheets();
        for (int s : NO_SHEETS) {
            Due.due("wipe(" + s + ")", x.wipe(s), false);
        }
        Due.due("SHEETS", x.count(3), 4);
        Due.due("wipe(4)", x.wipe(4), false);
        Due.due("wipe(0)", x.wipe(0), true);
        Due.due("wipe(0)", x.wipe(0), false);
        Due.due("SHEETS", x.count(3), 3);
        Due.due("the others stay", x.about(1, 0), 5);
        Due.tell(x, 7, 1, 0, 0, 1, 0, 0);
        Due.due("wipe(7)", x.wipe(7), true);
        Due.due("wipe(7)", x.wipe(7), false);
        Due.due("a wiped one is told anew", Due.tell(x, 0, 1, 0, 0, 1, 0, 0, 9, 9), 4);
        Due.duePoint(x, 0, 3, "9 9");
        Due.says("Promise 31: 3 SHEETS that are");
        for (int s = 0; s < 8; s++) {
            Due.tell(x, s, 1, 0, 0, 1, 0, 0);
        }
        Due.due("count(3)", x.count(3), 8);
    }

    private static void about() {
        Due.says("Promise 15: UNLIKE, the POINT most often gone through, the first k that is one ahead of it");
        WheelPens x = new WheelPens();
        Due.tell(x, 0, 1, 0, 0, 1, 2, 0, 3, 0);
        long[] apart = {4, 2, 4, 1, -1};
        Due.tell(x, 1, 1, 0, 0, 1, 2, 0, 1, 0);
        long[] ends = {4, 2, 3, 2, 3};
        Due.tell(x, 2, 5, 5, 5, 5, 5, 5, 5, 5);
        long[] alike = {4, 2, 1, 4, 1};
        Due.tell(x, 3, 1, 0, 2, 0, 2, 0, 1, 0, 1, 0);
        long[] two = {5, 4, 2, 3, 2};
        for (int what = 0; what < 5; what++) {
            Due.due("all apart, " + what, x.about(0, what), apart[what]);
            Due.due("first and last alike, " + what, x.about(1, what), ends[what]);
            Due.due("all alike, " + what, x.about(2, what), alike[what]);
            Due.due("two and three alike, " + what, x.about(3, what), two[what]);
        }
        Due.says("Promise 15: NONE: it is none, another what");
        for (int what : new int[] {-1, 5, FAR[0], FAR[1]}) {
            Due.due("about(0, " + what + ")", x.about(0, what), -1);
        }
        for (int what = 0; what < 5; what++) {
            Due.due("about(4, " + what + ")", x.about(4, what), -1);
            for (int s : NO_SHEETS) {
                Due.due("about(" + s + ", " + what + ")", x.about(s, what), -1);
            }
        }
    }

    private static void point() {
        Due.says("Promise 16: NoSuchElementException: no such ones");
        WheelPens x = withPens();
        for (int n : new int[] {3, 4, 5, 6, 59, 60}) {
            x.draw(0, 0, n);
            int p = P[n - 3];
            Due.due("the last number of " + n, Due.point(x, 0, n - 1).endsWith(" " + x.point(0, n - 1, p - 1)), true);
            Due.dueThrow("POINT N of " + n, () -> x.point(0, n, 0));
            Due.dueThrow("POINT -1 of " + n, () -> x.point(0, -1, 0));
            Due.dueThrow("number p of " + n, () -> x.point(0, 0, p));
            Due.dueThrow("number -1 of " + n, () -> x.point(0, 0, -1));
            Due.dueThrow("number -1 of POINT 1 of " + n, () -> x.point(0, 1, -1));
        }
        for (int far : FAR) {
            Due.dueThrow("point(0, " + far + ", 0)", () -> x.point(0, far, 0));
            Due.dueThrow("point(0, 0, " + far + ")", () -> x.point(0, 0, far));
        }
        Due.dueThrow("point(1, 0, 0)", () -> x.point(1, 0, 0));
        for (int s : NO_SHEETS) {
            Due.dueThrow("point(" + s + ", 0, 0)", () -> x.point(s, 0, 0));
        }
        Due.says("a SHEET that becomes smaller has the POINTS of its new N alone");
        x.draw(0, 0, 3);
        Due.dueThrow("point(0, 3, 0)", () -> x.point(0, 3, 0));
        Due.dueThrow("point(0, 0, 2)", () -> x.point(0, 0, 2));
        x.wipe(0);
        Due.dueThrow("point(0, 0, 0)", () -> x.point(0, 0, 0));
    }

    private static void same() {
        Due.says("TURNINGS, MIRRORS: how many n (0 to N - 1) there are with which they are the same set");
        WheelPens x = new WheelPens();
        Due.tell(x, 0, 0, 0, 0, 0, 0, 0, 0, 0, 0, 0, 0, 0);
        dueSame(x, 0, 6, 6, 1);
        Due.tell(x, 0, 1, 0, 0, 1, -1, 1, -1, 0, 0, -1, 1, -1);
        dueSame(x, 0, 6, 6, 1);
        Due.tell(x, 0, 1, 0, 1, 0, -1, 0, -1, 0, -1, 0, -1, 0);
        dueSame(x, 0, 2, 2, 1);
        Due.tell(x, 0, 1, 2, 1, 2, 1, 2, 1, 2, 1, 2, 1, 2);
        dueSame(x, 0, 1, 0, 1);
        Due.tell(x, 0, 1, 2, 3, -2, 0, 0, 0, 0, 0, 0, 0, 0);
        dueSame(x, 0, 1, 1, 2);
        Due.tell(x, 0, 1, 0, 2, 0, 0, 0, 0, 0, 0, 0, 0, 0);
        dueSame(x, 0, 1, 1, 3);
        Due.says("TURNINGS, MIRRORS: all POINTS, the first and the last one too");
        Due.tell(x, 0, 3, 0, 1, 0, -1, 0, 0, 0);
        dueSame(x, 0, 1, 1, 3);
        Due.tell(x, 0, 1, 0, -1, 0, 0, 0, 3, 0);
        dueSame(x, 0, 1, 1, 3);
        Due.tell(x, 0, 3, 1, 1, 0, -1, 0, 0, 0);
        dueSame(x, 0, 1, 0, 3);
        Due.tell(x, 0, 1, 0, -1, 0, 0, 0, 3, 1);
        dueSame(x, 0, 1, 0, 3);
        Due.tell(x, 0, 1, 0, -1, 0, 0, 0, 0, 0);
        dueSame(x, 0, 2, 2, 2);
        Due.says("DISTANCES: POINT times its MIRRORED one: how many that differ");
        Due.tell(x, 0, 1, 0, 0, 1, -1, 0);
        Due.due("all of 1", x.same(0, 2), 1);
        Due.tell(x, 0, 1, 0, 1, 2, 0, 0);
        Due.due("1, 1 - 2 + 4 and 0", x.same(0, 2), 3);
        Due.says("Promise 17: NONE: it is none, another what");
        for (int what : new int[] {-1, 3, FAR[0], FAR[1]}) {
            Due.due("same(0, " + what + ")", x.same(0, what), -1);
        }
        for (int what = 0; what < 3; what++) {
            Due.due("same(1, " + what + ")", x.same(1, what), -1);
            for (int s : NO_SHEETS) {
                Due.due("same(" + s + ", " + what + ")", x.same(s, what), -1);
            }
        }
    }

    private static void dueSame(WheelPens x, int sheet, int turnings, int mirrors, int distances) {
        Due.due("TURNINGS", x.same(sheet, 0), turnings);
        Due.due("MIRRORS", x.same(sheet, 1), mirrors);
        Due.due("DISTANCES", x.same(sheet, 2), distances);
    }

    private static void area() {
        Due.says("AREA: the sum over all k (POINT k + 1 of the last one comes round)");
        WheelPens x = new WheelPens();
        Due.tell(x, 0, 0, 0, 0, 0, 0, 1, 1, 0);
        Due.due("from the last but one to the last: -i 1 - i 1", x.area(0, 1), -2);
        Due.due("from the last but one to the last", x.area(0, 0), 0);
        Due.tell(x, 0, 0, 1, 0, 0, 0, 0, 1, 0);
        Due.due("from the last to the first: 1 i - 1 (-i)", x.area(0, 1), 2);
        Due.tell(x, 0, 5, 0, 5, 0, 5, 0, 5, 0);
        Due.due("a row that stands", x.area(0, 0), 0);
        Due.due("a row that stands", x.area(0, 1), 0);
        Due.says("AREA of the greatest numbers");
        Due.tell(x, 1, 100, 0, 0, 100, -100, 0, 0, -100);
        Due.mix(x, 1, "100 b");
        Due.mix(x, 1, "100 b");
        Due.due("four times 2000000000000 i", x.area(1, 1), 8000000000000L);
        Due.says("AREA, SHARED of a SHEET that was greater: nothing of it is left");
        Due.tell(x, 4, 7, 9, 7, 9, 7, 9, 7, 9, 7, 9, 7, 9, 7, 9, 7, 9);
        Due.tell(x, 5, 7, 9, 7, 9, 7, 9, 7, 9, 7, 9, 7, 9, 7, 9, 7, 9);
        Due.tell(x, 4, 0, 1, 0, 1, 0, 0, 1, 0);
        Due.tell(x, 5, 0, 1, 0, 2, 0, 3, 4, 0);
        Due.due("from the last to the first", x.area(4, 1), 2);
        Due.due("i alone", x.shared(4, 5), 1);
        Due.due("i alone", x.shared(5, 4), 1);
        Due.says("Promise 18: NoSuchElementException: no such ones");
        Due.dueThrow("area(0, 2)", () -> x.area(0, 2));
        Due.dueThrow("area(0, -1)", () -> x.area(0, -1));
        Due.dueThrow("area(2, 0)", () -> x.area(2, 0));
        for (int far : FAR) {
            Due.dueThrow("area(0, " + far + ")", () -> x.area(0, far));
        }
        for (int s : NO_SHEETS) {
            Due.dueThrow("area(" + s + ", 0)", () -> x.area(s, 0));
        }
        Due.tell(x, 3, new int[118]);
        Due.due("the last number of 59", x.area(3, 57), 0);
        Due.dueThrow("area(3, 58)", () -> x.area(3, 58));
    }

    private static void one() {
        Due.says("ONE: the least n, of like ones the least m");
        WheelPens x = withSheets();
        Due.due("one(0, 0)", x.one(0, 0), 0);
        Due.mix(x, 4, "a turn 4 from 4");
        Due.due("the greatest n and m of 5", x.one(0, 4), 404);
        Due.mix(x, 4, "a turn 4");
        Due.due("the greatest n", x.one(0, 4), 400);
        Due.mix(x, 4, "a from 4");
        Due.due("the greatest m", x.one(0, 4), 4);
        Due.due("the other way", x.one(4, 0), 1);
        Due.says("ONE: if for none, a MIRRORED first likewise; 10000 more");
        Due.mix(x, 4, "a mirror");
        Due.due("one(0, 4)", x.one(0, 4), 10000);
        Due.mix(x, 4, "a mirror turn 4 from 4");
        Due.due("one(0, 4)", x.one(0, 4), 10404);
        Due.mix(x, 4, "b mirror");
        Due.due("a turning goes ahead of a mirror", x.one(1, 4), 300);
        Due.says("Promise 19: NONE: they are not");
        Due.due("one(0, 1)", x.one(0, 1), -1);
        Due.mix(x, 4, "2 a");
        Due.due("one(0, 4)", x.one(0, 4), -1);
        Due.mix(x, 4, "a back");
        Due.due("one(0, 4)", x.one(0, 4), -1);
        Due.says("Promise 19: -2: one is none, or N are unlike");
        Due.due("N are unlike", x.one(0, 2), -2);
        Due.due("N are unlike", x.one(2, 0), -2);
        Due.due("one is none", x.one(0, 7), -2);
        Due.due("one is none", x.one(7, 0), -2);
        Due.due("both are none", x.one(7, 7), -2);
        for (int s : NO_SHEETS) {
            Due.due("one(" + s + ", 0)", x.one(s, 0), -2);
            Due.due("one(0, " + s + ")", x.one(0, s), -2);
        }
        int[] sixty = new int[120];
        sixty[0] = 1;
        sixty[2] = 2;
        Due.tell(x, 5, sixty);
        Due.mix(x, 6, "f turn 59 from 59");
        Due.due("the greatest n and m of 60", x.one(5, 6), 5959);
        Due.tell(x, 5, Arrays.copyOf(new int[] {1, 0, 2, 5}, 120));
        Due.mix(x, 6, "f mirror turn 59 from 59");
        Due.due("the greatest n and m of 60, MIRRORED", x.one(5, 6), 15959);
    }

    private static void again() {
        Due.says("PERIOD: the least m above 0 with which each POINT k is POINT k + m");
        WheelPens x = new WheelPens();
        Due.tell(x, 0, 5, 0, 5, 0, 5, 0, 5, 0, 5, 0, 5, 0);
        Due.due("all alike", x.again(0, 0), 1);
        Due.due("SELVES of all alike", x.again(0, 1), 6);
        Due.tell(x, 0, 5, 0, 5, 0, 5, 0, 5, 0, 5, 0, 6, 0);
        Due.due("the last one is unlike", x.again(0, 0), 6);
        Due.due("SELVES of it", x.again(0, 1), 1);
        Due.tell(x, 0, 6, 0, 5, 0, 5, 0, 6, 0, 5, 0, 5, 0);
        Due.due("three", x.again(0, 0), 3);
        Due.due("SELVES of three", x.again(0, 1), 2);
        Due.tell(x, 0, 1, 0, 2, 0, 3, 0, 1, 0, 2, 0);
        Due.due("3 does not divide 5", x.again(0, 0), 5);
        Due.says("SELVES: with how many n, m (0 to N - 1 each)");
        Due.tell(x, 0, 0, 0, 0, 0, 0, 0);
        Due.due("noughts", x.again(0, 1), 9);
        Due.due("noughts", x.again(0, 0), 1);
        Due.tell(x, 0, 1, 0, 0, 1, -1, -1);
        Due.due("1, z, z^2", x.again(0, 1), 3);
        Due.due("1, z, z^2", x.again(0, 0), 3);
        Due.says("Promise 20: NONE: it is none, another what");
        for (int what : new int[] {-1, 2, FAR[0], FAR[1]}) {
            Due.due("again(0, " + what + ")", x.again(0, what), -1);
        }
        for (int what = 0; what < 2; what++) {
            Due.due("again(1, " + what + ")", x.again(1, what), -1);
            for (int s : NO_SHEETS) {
                Due.due("again(" + s + ", " + what + ")", x.again(s, what), -1);
            }
        }
    }

    private static void product() {
        Due.says("Promise 21: NONE: no such SHEETS, or of unlike N");
        WheelPens x = withSheets();
        Due.due("into the last SHEET", x.product(7, 0, 1), 5);
        duePoints(x, 7, "0 1 0 0", "0 0 0 0", "0 0 0 0", "0 0 0 0", "0 0 0 0");
        Due.due("N are unlike", x.product(4, 0, 2), -1);
        Due.due("N are unlike", x.product(4, 2, 0), -1);
        Due.due("one is none", x.product(4, 0, 5), -1);
        Due.due("one is none", x.product(4, 5, 0), -1);
        for (int s : NO_SHEETS) {
            Due.due("product(" + s + ", 0, 0)", x.product(s, 0, 0), -1);
            Due.due("product(4, " + s + ", 0)", x.product(4, s, 0), -1);
            Due.due("product(4, 0, " + s + ")", x.product(4, 0, s), -1);
        }
        Due.due("no SHEET came", x.about(4, 0), -1);
        Due.due("SHEETS", x.count(3), 5);
        Due.due("SHEET to was of another N", x.product(2, 0, 0), 5);
        Due.due("its N", x.about(2, 0), 5);
        Due.due("into one of its own", x.product(0, 0, 0), 5);
        Due.duePoint(x, 0, 3, "16 40 25 0");
        Due.says("Promise 21: -2000: a number would be above 1000000 (it stays, then)");
        Due.tell(x, 4, 100, 0, 0, 0, 0, 0);
        Due.tell(x, 5, 1, 0, 0, 0, 0, 0);
        Due.mix(x, 4, "10 e");
        Due.kit(x, "!");
        Due.due("1000 times 1000", x.product(6, 4, 4), 3);
        duePoints(x, 6, "1000000 0", "0 0", "0 0");
        Due.mix(x, 3, "e+f");
        Due.due("1001 times 1000", x.product(6, 4, 3), -2000);
        duePoints(x, 6, "1000000 0", "0 0", "0 0");
        Due.due("into one of its own", x.product(3, 4, 3), -2000);
        duePoints(x, 3, "1001 0", "0 0", "0 0");
        Due.mix(x, 4, "-e");
        Due.due("-1000 times 1000", x.product(6, 4, 4), 3);
        Due.due("-1000 times 1001", x.product(6, 4, 3), -2000);
        x.wipe(6);
        Due.due("into one that is none", x.product(6, 4, 3), -2000);
        Due.due("it is none still", x.about(6, 0), -1);
        Due.tell(x, 0, 0, 100, 0, 0, 0, 0);
        Due.mix(x, 0, "10 a");
        Due.due("1000 z times 1000 z", x.product(1, 0, 0), 3);
        Due.duePoint(x, 1, 0, "-1000000 -1000000");
        Due.mix(x, 2, "a");
        Due.tell(x, 5, 0, 1, 0, 0, 0, 0);
        Due.mix(x, 2, "a+f");
        Due.due("1000 z times 1001 z", x.product(1, 0, 2), -2000);
        Due.duePoint(x, 1, 0, "-1000000 -1000000");
    }

    private static void shared() {
        Due.says("SHARED: how many unlike POINTS of a SHEET are POINTS of another one, too");
        WheelPens x = withSheets();
        Due.tell(x, 4, 0, 0, 0, 0, 0, 0, 0, 0, 4, 5);
        Due.due("0 and 4 + 5 z", x.shared(0, 4), 2);
        Due.due("as often as they are", x.shared(4, 0), 2);
        Due.due("all of its own", x.shared(0, 0), 5);
        Due.due("all of its own", x.shared(4, 4), 2);
        Due.tell(x, 4, 9, 0, 9, 0, 9, 0, 9, 0, 9, 0);
        Due.due("none", x.shared(0, 4), 0);
        Due.says("Promise 22: -2: one is none, or N are unlike");
        Due.due("N are unlike", x.shared(0, 2), -2);
        Due.due("one is none", x.shared(0, 7), -2);
        Due.due("one is none", x.shared(7, 0), -2);
        for (int s : NO_SHEETS) {
            Due.due("shared(" + s + ", 0)", x.shared(s, 0), -2);
            Due.due("shared(0, " + s + ")", x.shared(0, s), -2);
        }
    }

    public static void main(String[] args) {
        draw();
        windingsComeRound();
        tell();
        bytesOfAMix();
        tokensOfAMix();
        changesOfAMix();
        partsOfAMix();
        greatNumbers();
        noSheetForAMix();
        wipe();
        about();
        point();
        same();
        area();
        one();
        again();
        product();
        shared();
        Due.report();
    }
}
