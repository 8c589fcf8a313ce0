/** The bounds that part 1 of the Terms and promises 1 to 10 and 31 name, sentence by sentence: the
    last input inside, the first one outside, and what calls answer behind a refused one. */
public final class KitBoundsTest {
    private static final String PLAIN = "ring r 96;wheel a 24 in r;pen p a 24;";
    private static final String[] TAKEN = {"ring", "wheel", "pen", "in", "on", "at"};
    private static final int[] FAR = {Integer.MIN_VALUE, Integer.MAX_VALUE};

    /** The text is a KIT of so many LINES. */
    private static WheelPens whole(String text, int lines) {
        WheelPens x = new WheelPens();
        Due.kit(x, "!");
        Due.due("kit() of " + text, Due.kit(x, text), lines);
        Due.due("fault() of " + text, x.fault(), 0);
        Due.due("LINES that are told by " + text, x.count(0) + x.count(1) + x.count(2), lines);
        Due.due("the tape behind " + text, x.count(4), 0);
        return x;
    }

    /** The text has a FAULT, and the KIT that was told ahead stays. */
    private static void fault(String text, int kind, int place) {
        WheelPens x = new WheelPens();
        Due.kit(x, PLAIN);
        Due.due("kit() of " + text, Due.kit(x, text), -1 - place);
        Due.due("fault() of " + text, x.fault(), kind);
        Due.due("RINGS behind " + text, x.count(0), 1);
        Due.due("WHEELS behind " + text, x.count(1), 1);
        Due.due("PENS behind " + text, x.count(2), 1);
        Due.due("SPIN behind " + text, () -> x.spin(0, 0), -3);
        Due.due("ARM behind " + text, () -> x.arm(0, 0, 1), 24);
        Due.due("the tape behind " + text, x.count(4), 0);
    }

    /** The FAULT is where the text has its @, which is not a part of it. */
    private static void faultAt(String marked, int kind) {
        int place = marked.indexOf('@');
        fault(marked.substring(0, place) + marked.substring(place + 1), kind, place);
    }

    private static String repeat(String line, int times) {
        StringBuilder all = new StringBuilder();
        for (int i = 0; i < times; i++) {
            all.append(line.replace('_', (char) ('a' + i)));
        }
        return all.toString();
    }

    /** Blanks behind the text till it has so many bytes. */
    private static String padded(String text, int bytes) {
        return text + " ".repeat(bytes - text.length());
    }

    private static void bytesOfAKit() {
        Due.says("a text of at most 600 bytes");
        whole(padded(PLAIN, 599), 3);
        whole(padded(PLAIN, 600), 3);
        fault(padded(PLAIN, 601), 1, 600);
        fault(padded(PLAIN, 640), 1, 600);
        whole(" ".repeat(600), 0);
        fault(" ".repeat(601), 1, 600);
        whole(" ".repeat(600 - PLAIN.length()) + PLAIN, 3);
        fault(" ".repeat(601 - PLAIN.length()) + PLAIN, 1, 600);
        Due.says("600, if there are more and no FAULT is ahead");
        fault(padded("ring r 9", 600) + ";", 1, 600);
        fault(padded("ring r 9;", 600) + "!", 1, 600);
        fault(padded("ring r 9;", 600) + "ring", 1, 600);
        fault(padded("ring r 9;", 599) + "!;", 1, 599);
        fault(padded("!", 640), 1, 0);
        fault(padded("ring r 201;", 640), 2, 7);
        fault(padded("ring r 9;ring r 9;", 640), 3, 14);
        fault(padded(repeat("ring _ 9;", 5), 640), 4, 36);
        Due.says("TOKENS that begin ahead of it are read whole");
        whole(padded("ring r", 597) + "20;", 1);
        fault(padded("ring r", 599) + "200;", 1, 600);
        fault(padded("ring r", 599) + "201;", 2, 599);
        fault(padded("ring r", 599) + "2;", 2, 599);
        fault(padded("ring r", 600) + "2;", 1, 600);
        fault(padded("ring r", 599) + "2000;", 1, 599);
        fault(padded("ring", 595) + "abcdef", 1, 600);
        fault(padded("ring", 599) + "abcdefg", 1, 599);
        fault(padded("ring r", 599) + "9a;", 1, 599);
        fault(padded("ring rr 9;ring", 599) + "rr", 3, 599);
        fault(padded("ring rr 9;ring", 599) + "rrr", 1, 600);
        fault(padded(repeat("ring _ 9;", 4), 599) + "ring", 4, 599);
        fault(padded(repeat("ring _ 9;", 4), 600) + "ring", 1, 600);
        fault(padded("ring r 3;wheel a 200 on r at 1/50", 599) + "; ", 5, 599);
        fault(padded("ring r 3;wheel a 200 on r at 1/50", 600) + ";", 1, 600);
    }

    private static void tokens() {
        Due.says("with blanks (32, 10) between them or not");
        whole("ring r 9;wheel a 3 on r at-1/2;pen p a-3;", 3);
        whole(" \n ring\nr\n9\n;\nwheel a 3 on r at - 1 / 2 ; pen p a - 3 ;\n \n", 3);
        whole("\n", 0);
        for (char c : new char[] {0, 1, 9, 11, 12, 13, 31, 33, 127, 128, 138, 160, 255}) {
            fault("ring r" + c + "9;", 1, 6);
            fault("ring r 9;" + c, 1, 9);
        }
        Due.says("WORDS: small letters, 1 to 6");
        whole("ring a 9;ring z 9;ring azazaz 9;", 3);
        faultAt("ring @azazaza 9;", 1);
        faultAt("ring @R 9;", 1);
        faultAt("@Ring r 9;", 1);
        faultAt("ring r@` 9;", 1);
        faultAt("ring r@{ 9;", 1);
        faultAt("ring r@_ 9;", 1);
        faultAt("@rings r 9;", 1);
        faultAt("@rin r 9;", 1);
        Due.says("NUMBERS: 1 to 3 digits");
        whole("ring a 9;ring b 09;ring c 009;ring d 190;", 4);
        faultAt("ring r @0009;", 1);
        faultAt("ring r @1000;", 1);
        faultAt("ring r @9999999999999999999999;", 1);
        faultAt("ring r 9@:;", 1);
        faultAt("ring r 9@.;", 1);
        Due.says("A WORD, NUMBER goes on as long as small letters and digits do");
        faultAt("ring @r9 9;", 1);
        faultAt("ring @9r 9;", 1);
        faultAt("ring r @9r;", 1);
        faultAt("ring @r9;", 1);
        faultAt("ring r 9;wheel a @5in r;", 1);
        faultAt("@ring9 9;", 1);
    }

    /** Each TOKEN of a text is taken away with all behind it, and put in each other one's place. */
    private static void tokensThatCantCome() {
        Due.says("1 no TOKEN, or one that can't come (at it; the end: how many bytes there are)");
        String[] tokens = {"ring", "r", "9", ";", "wheel", "a", "5", "in", "r", "at", "-", "1", "/", "2", ";",
            "wheel", "b", "5", "on", "a", ";", "pen", "p", "a", "-", "5", ";"};
        /* What may come in a place: L a LINE's first WORD, N a NAME, D digits, B in or on, E at or ;
           M a - or digits, and the signs themselves. */
        String may = "LND;LNDBNEMD/D;LNDBNE" + "LNNMD;";
        String[] others = {"ring", "wheel", "pen", "in", "on", "at", "x", "7", ";", "/", "-", "+", "!", "x7"};
        String ahead = "";
        for (int i = 0; i < tokens.length; i++) {
            for (String other : others) {
                if (!canCome(other, may.charAt(i))) {
                    fault(ahead + other, 1, ahead.length());
                    fault(ahead + other + " ;", 1, ahead.length());
                }
            }
            ahead = ahead + tokens[i];
            if (!tokens[i].equals(";")) {
                fault(ahead, 1, ahead.length());
                fault(ahead + " \n", 1, ahead.length() + 2);
            }
            ahead = ahead + " ";
        }
        whole(ahead, 4);
        whole("", 0);
        faultAt("@;", 1);
        faultAt("ring r 9;@;", 1);
        faultAt("ring r 9;wheel a 5 in r at 1/2 @at 1/2;", 1);
        faultAt("ring r 9;wheel a 5 in r at - @- 1/2;", 1);
        faultAt("ring r 9;wheel a 5 in r;pen p a - @- 5;", 1);
    }

    private static boolean canCome(String token, char where) {
        switch (where) {
            case 'L':
                return token.equals("ring") || token.equals("wheel") || token.equals("pen");
            case 'N':
                return token.equals("x");
            case 'D':
                return token.equals("7");
            case 'B':
                return token.equals("in") || token.equals("on");
            case 'E':
                return token.equals("at") || token.equals(";");
            case 'M':
                return token.equals("-") || token.equals("7");
            default:
                return token.equals(String.valueOf(where));
        }
    }

    private static void numbers() {
        Due.says("TEETH: a NUMBER 3 to 200");
        whole("ring a 3;ring b 200;wheel c 3 on a;wheel d 200 on b;", 4);
        for (String wrong : new String[] {"0", "1", "2", "002", "201", "999"}) {
            faultAt("ring r @" + wrong + ";", 2);
            faultAt("ring r 9;wheel a @" + wrong + " on r;", 2);
        }
        Due.says("'at': NUMBERS 0 to 99, 1 to 99");
        for (String at : new String[] {"0/1", "-0/1", "99/1", "-99/1", "1/99", "0/99", "99/99", "099/099"}) {
            whole("ring r 9;wheel a 5 in r at " + at + ";", 2);
        }
        faultAt("ring r 9;wheel a 5 in r at @100/1;", 2);
        faultAt("ring r 9;wheel a 5 in r at -@100/1;", 2);
        faultAt("ring r 9;wheel a 5 in r at @999/1;", 2);
        faultAt("ring r 9;wheel a 5 in r at 1/@0;", 2);
        faultAt("ring r 9;wheel a 5 in r at 0/@0;", 2);
        faultAt("ring r 9;wheel a 5 in r at 1/@100;", 2);
        Due.says("plain 1");
        WheelPens x = whole("ring r 9;wheel a 5 in r;wheel b 5 in r at 1/1;wheel c 5 on r;wheel d 5 on r at 7/7;", 5);
        Due.due("spin(0, 0)", x.spin(0, 0), -4);
        Due.due("spin(0, 1)", x.spin(0, 1), 5);
        Due.due("spin(1, 0)", x.spin(1, 0), -4);
        Due.due("spin(2, 0)", x.spin(2, 0), 14);
        Due.due("spin(3, 0)", x.spin(3, 0), 14);
        Due.says("[ - ] NUMBER (0 to 200: OUT)");
        whole("ring r 9;wheel a 5 in r;pen p a 0;pen q a 200;pen s a - 200;pen t a -0;", 6);
        faultAt("ring r 9;wheel a 5 in r;pen p a @201;", 2);
        faultAt("ring r 9;wheel a 5 in r;pen p a -@201;", 2);
        faultAt("ring r 9;wheel a 5 in r;pen p a @999;", 2);
    }

    private static void bases() {
        Due.says("one 'in' it has fewer TEETH; TEETH that are too many for 'in': at the BASE");
        whole("ring r 9;wheel a 8 in r;wheel b 7 in a;", 3);
        faultAt("ring r 9;wheel a 9 in @r;", 2);
        faultAt("ring r 9;wheel a 10 in @r;", 2);
        faultAt("ring r 9;wheel a 8 in r;wheel b 8 in @a;", 2);
        faultAt("ring r 9;wheel a 8 in r;wheel b 9 in @a;", 2);
        whole("ring r 9;wheel a 9 on r;wheel b 9 on a;wheel c 10 on r;wheel d 11 on c;", 5);
        faultAt("ring r 3;wheel a 3 in @r;", 2);
        Due.says("BASE: a RING or WHEEL told ahead");
        faultAt("wheel a 5 in @r;", 3);
        faultAt("wheel a 5 in @r;ring r 9;", 3);
        faultAt("ring r 9;wheel a 5 in @b;wheel b 5 in r;", 3);
        faultAt("ring r 9;wheel a 5 in r;wheel b 3 in @b;", 3);
        faultAt("ring r 9;wheel a 5 in r;pen p a 5;wheel b 3 on @p;", 3);
        faultAt("ring rr 9;wheel a 5 in @r;", 3);
        faultAt("ring r 9;wheel a 5 in @rr;", 3);
        Due.says("WHEEL: one told ahead");
        faultAt("pen p @a 5;", 3);
        faultAt("ring r 9;pen p @r 5;", 3);
        faultAt("ring r 9;pen p @p 5;", 3);
        faultAt("ring r 9;pen p @a 5;wheel a 5 in r;", 3);
        faultAt("ring r 9;wheel a 5 in r;pen p a 5;pen q @p 5;", 3);
        Due.says("no NAME of the KIT that was ahead is told");
        WheelPens x = whole(PLAIN, 3);
        Due.due("kit() of a LINE that needs it", Due.kit(x, "wheel b 24 in r;"), -15);
        Due.due("fault()", x.fault(), 3);
        Due.due("kit() of the same NAMES", Due.kit(x, PLAIN), 3);
        Due.due("kit() behind a FAULT of the same NAMES", Due.kit(x, PLAIN + "!"), -1 - PLAIN.length());
        Due.due("kit() of the same NAMES", Due.kit(x, PLAIN), 3);
    }

    private static void names() {
        Due.says("NAME: a WORD, none of ring, wheel, pen, in, on, at");
        for (String taken : TAKEN) {
            faultAt("ring @" + taken + " 9;", 1);
            faultAt("ring r 9;wheel @" + taken + " 5 in r;", 1);
            faultAt("ring r 9;wheel a 5 in @" + taken + ";", 1);
            faultAt("ring r 9;wheel a 5 in r;pen @" + taken + " a 5;", 1);
            faultAt("ring r 9;wheel a 5 in r;pen p @" + taken + " 5;", 1);
            whole("ring x" + taken + " 9;wheel " + taken.charAt(0) + " 5 in x" + taken + ";", 2);
        }
        whole("ring rings 9;wheel wheels 5 in rings;pen pens wheels 5;ring i 9;ring n 9;ring att 9;", 6);
        whole("ring turn 9;wheel mirror 5 in turn;pen from mirror 5;wheel back 5 on mirror;", 4);
        Due.says("told once; 3 a NAME told twice (at it)");
        String[] told = {"ring x 9;", "wheel x 5 in r;", "pen x w 5;"};
        String[] again = {"ring @x 9;", "wheel @x 5 in r;", "pen @x w 5;"};
        for (String first : told) {
            for (String second : again) {
                faultAt("ring r 9;wheel w 5 in r;" + first + second, 3);
            }
        }
        whole("ring r 9;ring rr 9;ring rrrrrr 9;ring rrrrr 9;", 4);
        whole("ring aa 9;ring ab 9;ring ba 9;ring b 9;", 4);
    }

    private static void howMany() {
        Due.says("4 RINGS, 12 WHEELS, 8 PENS at most; 4 a fifth RING, .. (at the LINE's first WORD)");
        String rings = repeat("ring r_ 9;", 4);
        String wheels = repeat("wheel w_ 5 on ra;", 12);
        String pens = repeat("pen p_ wl 5;", 8);
        WheelPens x = whole(rings + wheels + pens, 24);
        Due.due("RINGS", x.count(0), 4);
        Due.due("WHEELS", x.count(1), 12);
        Due.due("PENS", x.count(2), 8);
        faultAt(rings + wheels + pens + "@ring q 9;", 4);
        faultAt(rings + wheels + pens + "@wheel q 5 on ra;", 4);
        faultAt(rings + wheels + pens + "@pen q wa 5;", 4);
        faultAt(rings + " @ring re 9;", 4);
        faultAt("ring ra 9;" + wheels + " @wheel wm 5 on ra;", 4);
        faultAt("ring ra 9;wheel wl 5 on ra;" + pens + " @pen pi wl 5;", 4);
        faultAt(rings + "@ring ra 2;", 4);
        faultAt(rings + "@ring", 4);
        faultAt(rings + "@ring;", 4);
        faultAt(rings + "@ring !", 4);
        faultAt("ring ra 9;" + wheels + "@wheel wa 2 in q", 4);
        faultAt("ring ra 9;wheel wl 5 on ra;" + pens + "@pen", 4);
        Due.says("numbered each sort by itself, from 0");
        x = whole("ring r 96;wheel a 24 in r;pen p a 1;ring q 60;wheel b 10 on q;pen s b 2;wheel c 12 in a;pen t a 3;", 8);
        Due.due("WHEEL a", x.spin(0, 0), -3);
        Due.due("WHEEL b", x.spin(1, 0), 7);
        Due.due("WHEEL c", x.spin(2, 0), -7);
        Due.due("PEN p", x.arm(0, 0, 1), 1);
        Due.due("PEN s", x.arm(1, 1, 1), 2);
        Due.due("PEN t", x.arm(2, 0, 1), 3);
        Due.says("4 a fifth WHEEL above its RING (at the BASE)");
        String four = "ring r 9;wheel a 8 in r;wheel b 7 in a;wheel c 7 on b;wheel d 7 on c;";
        whole(four + "wheel e 7 on c;wheel f 7 on b;wheel g 5 in r;", 8);
        faultAt(four + "wheel e 6 in @d;", 4);
        faultAt(four + "wheel e 7 on @d;", 4);
        faultAt(four + "wheel e 7 on @d at 1/0;", 4);
    }

    private static void spinsTooGreat() {
        Due.says("5 a WHEEL the SPIN of which is no share of two numbers up to 9999 (at the LINE's ; )");
        WheelPens x = whole("ring r 52;wheel a 42 on r at 91/1;wheel b 8 in a at - 85/2;", 3);
        Due.due("the greatest upper number", x.spin(1, 0), 9999);
        Due.due("its lower one", x.spin(1, 1), 8);
        faultAt("ring r 186;wheel a 21 on r at 80/1;wheel b 5 in a at - 20/3@;", 5);
        x = whole("ring r 109;wheel a 12 on r at 75/1;wheel b 10 on a at - 42/1;", 3);
        Due.due("the least upper number", x.spin(1, 0), -9999);
        Due.due("its lower one", x.spin(1, 1), 10);
        faultAt("ring r 120;wheel a 30 in r at - 48/1;wheel b 7 on a at 80/3@;", 5);
        x = whole("ring r 99;wheel a 101 on r at 1/99;", 2);
        Due.due("upper number", x.spin(0, 0), 200);
        Due.due("the greatest lower number", x.spin(0, 1), 9999);
        faultAt("ring r 3;wheel a 200 on r at 1/50@;", 5);
        faultAt("ring r 3;wheel a 200 on r at 1/50 \n @;", 5);
        faultAt("ring r 3;wheel a 200 on r at 1/50@", 1);
        faultAt("ring r 3;wheel a 200 on r at 1/50 @/;", 1);
        faultAt("ring r 3;wheel a 200 on r at 1/50@;ring r 2;", 5);
        faultAt("ring r 3;wheel a 200 on r at 1/50@;wheel b 3 on a;", 5);
    }

    private static void whichFault() {
        Due.says("FAULTS, the first along the text");
        faultAt("ring r @2;ring r 9;", 2);
        faultAt("ring r 9;ring @r 2;", 3);
        faultAt("ring r 9;wheel a @2 in q;", 2);
        faultAt("ring r 9;wheel a 9 in @q at 1/0;", 3);
        faultAt("ring r 9;wheel a 9 in @r at 1/0;", 2);
        faultAt("ring r 9;wheel a 5 in r at @100/0;", 2);
        faultAt("ring r 9;pen p @r 201", 3);
        faultAt("ring r 9;wheel a 5 in r;pen p a @201", 2);
        faultAt("ring r @2", 2);
        faultAt("ring r @2 !", 2);
        faultAt("ring r 9;ring @r", 3);
        Due.says("of one TOKEN the least");
        String four = "ring r 9;wheel a 8 in r;wheel b 7 in a;wheel c 7 on b;wheel d 7 on c;";
        faultAt(four + "wheel e 7 in @d;", 2);
        faultAt("ring r @0000;", 1);
        faultAt("ring r 9 @201;", 1);
    }

    private static void speeds() {
        Due.says("shares in least numbers (the lower one above 0)");
        WheelPens x = whole("ring r 96;wheel a 36 in r;wheel b 36 in r at - 1/1;wheel c 24 on r at 0/9;"
            + "wheel d 96 on r at 4/8;wheel e 35 on a at 0/1;", 6);
        long[][] spins = {{-5, 3}, {5, 3}, {0, 1}, {1, 1}, {12, 7}};
        for (int w = 0; w < spins.length; w++) {
            Due.due("spin(" + w + ", 0)", x.spin(w, 0), spins[w][0]);
            Due.due("spin(" + w + ", 1)", x.spin(w, 1), spins[w][1]);
        }
        Due.says("ARMS of one speed are one (their lengths together); those of length 0 are none");
        x = whole("ring r 9;wheel a 4 on r at 0/1;wheel b 6 on a at 0/5;pen p b - 23;pen q b - 22;pen s b - 24;pen t b 200;"
            + "wheel c 3 in r at 1/2;pen u c 0;pen v c - 0;", 10);
        Due.due("13 + 10 - 23: no ARM", x.arms(0), 0);
        Due.due("13 + 10 - 22", x.arms(1), 1);
        Due.due("13 + 10 - 22", x.arm(1, 0, 1), 1);
        Due.due("13 + 10 - 24", x.arm(2, 0, 1), -1);
        Due.due("13 + 10 + 200", x.arm(3, 0, 1), 223);
        Due.due("OUT 0", x.arms(4), 1);
        Due.due("OUT - 0", x.arms(5), 1);
        Due.says("CLOSES after the least number C of turns (1 at least)");
        Due.due("without ARMS", x.closes(0), 1);
        Due.due("one ARM that stands", x.closes(1), 1);
        Due.due("one ARM of 1/2", x.closes(4), 2);
        Due.says("LOBES: 0 with fewer than two ARMS");
        Due.due("without ARMS", x.lobes(0), 0);
        Due.due("one ARM", x.lobes(1), 0);
        Due.due("one ARM", x.lobes(4), 0);
        x = whole("ring r 96;wheel a 24 in r;pen p a 1;pen q a - 1;", 4);
        Due.due("two ARMS, -3 and 1", x.lobes(0), 4);
        Due.due("two ARMS, -3 and 1", x.lobes(1), 4);
    }

    private static void feedAndEnd() {
        WheelPens x = new WheelPens();
        Due.says("Promise 3: false, if it has not so many, or n is below 0");
        Due.due("end(0) of an empty tape", x.end(0), true);
        Due.due("end(1) of an empty tape", x.end(1), false);
        Due.due("end(-1) of an empty tape", x.end(-1), false);
        Due.says("Promise 2: twenty bytes, of each number the highest first");
        Due.due("feed", x.feed(0x01027f80, 0xfffe0304, 5, 0x06000000, 0x0708090a), 20);
        for (int n : new int[] {21, 640, 641, -1, -20, Integer.MIN_VALUE, Integer.MAX_VALUE}) {
            Due.due("end(" + n + ")", x.end(n), false);
            Due.due("count(4)", x.count(4), 20);
        }
        Due.due("end(20)", x.end(20), true);
        Due.due("tell(0)", x.tell(0), 10);
        String[] points = {"1 2 0 0", "127 -128 0 0", "-1 -2 0 0", "3 4 0 0", "0 0 0 0", "0 5 0 0", "6 0 0 0", "0 0 0 0", "7 8 0 0", "9 10 0 0"};
        for (int k = 0; k < points.length; k++) {
            Due.duePoint(x, 0, k, points[k]);
        }
        Due.says("Promise 2: NONE, and none come, if it would have more than 640");
        for (int i = 1; i <= 32; i++) {
            Due.due("feed", x.feed(i << 24, 0, 0, 0, 0), 20 * i);
        }
        for (int more = 0; more < 3; more++) {
            Due.due("feed to 660", x.feed(-1, -1, -1, -1, -1), -1);
            Due.due("count(4)", x.count(4), 640);
        }
        Due.due("end(641)", x.end(641), false);
        Due.due("end(640)", x.end(640), true);
        Due.due("end(639)", x.end(639), true);
        Due.due("end(640) of 639", x.end(640), false);
        Due.due("feed to 659", x.feed(-1, -1, -1, -1, -1), -1);
        Due.due("end(621)", x.end(621), true);
        Due.due("feed to 641", x.feed(-1, -1, -1, -1, -1), -1);
        Due.due("count(4)", x.count(4), 621);
        Due.due("end(620)", x.end(620), true);
        Due.due("feed to 640", x.feed(-1, -1, -1, -1, -1), 640);
        Due.says("Promise 3: the tape has its first n bytes alone");
        Due.due("end(6)", x.end(6), true);
        Due.due("end(7)", x.end(7), false);
        Due.due("feed behind 6", x.feed(0x02030000, 0, 0, 0, 0), 26);
        Due.due("end(8)", x.end(8), true);
        Due.due("tell(1)", x.tell(1), 4);
        Due.duePoint(x, 1, 0, "1 0");
        Due.duePoint(x, 1, 2, "0 0");
        Due.duePoint(x, 1, 3, "2 3");
        Due.due("end(1) of a tape that is empty again", x.end(1), false);
    }

    private static void newObject() {
        Due.says("Promise 1: the empty KIT, no SHEETS; an empty tape");
        WheelPens x = new WheelPens();
        for (int what = 0; what < 5; what++) {
            Due.due("count(" + what + ")", x.count(what), 0);
        }
        for (int s = 0; s < 8; s++) {
            Due.due("wipe(" + s + ")", x.wipe(s), false);
            Due.due("about(" + s + ", 0)", x.about(s, 0), -1);
        }
        Due.due("arms(0)", x.arms(0), -1);
        Due.dueThrow("spin(0, 0)", () -> x.spin(0, 0));
        Due.says("Promise 5: 0 ahead of any");
        Due.due("fault()", x.fault(), 0);
        Due.says("ahead of any");
        Due.due("backAt(0, 0)", x.backAt(0, 0), -1);
        Due.due("wrong()", x.wrong(), -1);
        Due.dueThrow("rightAt(0)", () -> x.rightAt(0));
        Due.dueThrow("madeAt(0, 0)", () -> x.madeAt(0, 0));
        Due.says("Promise 4: the empty tape is a KIT of no LINES");
        Due.due("kit()", x.kit(), 0);
    }

    private static void kitAndFault() {
        Due.says("Promise 4: how many LINES; -1 less the place of a FAULT: it stays");
        WheelPens x = new WheelPens();
        Due.due("three LINES", Due.kit(x, PLAIN), 3);
        Due.due("a FAULT at 0", Due.kit(x, "!"), -1);
        Due.due("the KIT stays", x.count(2), 1);
        Due.due("it draws", x.draw(0, 0, 8), 8);
        Due.due("a FAULT at the end", Due.kit(x, "ring q 9;ring"), -14);
        Due.due("no RING came", x.count(0), 1);
        Due.due("no LINES", x.kit(), 0);
        Due.due("no PENS now", x.count(2), 0);
        Due.due("the SHEET is still there", x.about(0, 0), 8);
        Due.says("Promise 4: the tape is the KIT now: nothing of the one ahead is left");
        for (int i = 0; i < 4; i++) {
            Due.due("20 LINES", Due.kit(x, "ring r 9;ring q 9;" + repeat("wheel w_ 3 in r;", 11) + repeat("pen p_ wk 1;", 7)), 20);
            Due.due("RINGS", x.count(0), 2);
            Due.due("WHEELS", x.count(1), 11);
            Due.due("PENS", x.count(2), 7);
            Due.kit(x, "ring r 9;wheel a 3 in r;pen p a 1;!");
            Due.due("RINGS", x.count(0), 2);
            Due.due("three LINES", Due.kit(x, "ring s 9;wheel a 3 in s;pen p a 1;"), 3);
            Due.due("RINGS", x.count(0), 1);
            Due.due("WHEELS", x.count(1), 1);
            Due.due("PENS", x.count(2), 1);
        }
        Due.kit(x, "");
        Due.says("Promise 5: the FAULT of the latest kit() or mix() that read a text; 0 without one");
        Due.due("behind kit() without one", x.fault(), 0);
        String[] texts = {"!", "ring r 2;", "ring r 9;ring r 9;", repeat("ring _ 9;", 5), "ring r 3;wheel a 200 on r at 1/50;"};
        for (int kind = 1; kind <= 5; kind++) {
            Due.kit(x, texts[kind - 1]);
            Due.due("fault()", x.fault(), kind);
            Due.due("fault() once more", x.fault(), kind);
        }
        Due.due("mix(8) reads no text", Due.mix(x, 8, "!"), -1000);
        Due.due("fault()", x.fault(), 5);
        Due.mix(x, 0, "b");
        Due.due("of mix()", x.fault(), 3);
        Due.mix(x, 0, "a" + "+a".repeat(12));
        Due.due("of mix()", x.fault(), 2);
        Due.mix(x, 0, "!");
        Due.due("of mix()", x.fault(), 1);
        Due.mix(x, 1, "a");
        Due.due("of mix() without one", x.fault(), 0);
    }

    private static void noSuchOnes() {
        WheelPens x = whole("ring r 96;wheel a 24 in r;wheel b 12 on r;pen p a 24;", 4);
        Due.says("Promise 6: NoSuchElementException: no such one, another what");
        Due.due("the last WHEEL", x.spin(1, 0), 9);
        Due.due("the last what", x.spin(1, 1), 1);
        for (int w : new int[] {-1, 2, 12, FAR[0], FAR[1]}) {
            Due.dueThrow("spin(" + w + ", 0)", () -> x.spin(w, 0));
        }
        for (int what : new int[] {-1, 2, FAR[0], FAR[1]}) {
            Due.dueThrow("spin(0, " + what + ")", () -> x.spin(0, what));
        }
        for (int pen : new int[] {-1, 1, 8, FAR[0], FAR[1]}) {
            Due.says("Promise 7: NONE: no such one");
            Due.due("closes(" + pen + ")", x.closes(pen), -1);
            Due.says("Promise 8: NONE: no such one");
            Due.due("arms(" + pen + ")", x.arms(pen), -1);
            Due.says("Promise 9: NoSuchElementException: no such ones");
            Due.dueThrow("arm(" + pen + ", 0, 0)", () -> x.arm(pen, 0, 0));
            Due.says("Promise 10: NONE: no such one");
            Due.due("lobes(" + pen + ")", x.lobes(pen), -1);
        }
        Due.says("Promise 9: NoSuchElementException: no such ones");
        Due.due("the last ARM", x.arm(0, 1, 0), 1);
        Due.due("the last ARM and what", x.arm(0, 1, 1), 72);
        for (int i : new int[] {-1, 2, 5, FAR[0], FAR[1]}) {
            Due.dueThrow("arm(0, " + i + ", 0)", () -> x.arm(0, i, 0));
            Due.dueThrow("arm(0, " + i + ", 1)", () -> x.arm(0, i, 1));
        }
        for (int what : new int[] {-1, 2, FAR[0], FAR[1]}) {
            Due.dueThrow("arm(0, 0, " + what + ")", () -> x.arm(0, 0, what));
        }
        Due.says("Promise 31: NONE for another what");
        x.feed(0, 0, 0, 0, 0);
        Due.due("the last what", x.count(4), 20);
        for (int what : new int[] {-1, 5, FAR[0], FAR[1]}) {
            Due.due("count(" + what + ")", x.count(what), -1);
        }
        Due.says("the numbers of a KIT that is gone are no such ones");
        Due.kit(x, "ring r 96;");
        Due.dueThrow("spin(0, 0)", () -> x.spin(0, 0));
        Due.due("closes(0)", x.closes(0), -1);
        Due.dueThrow("arm(0, 0, 0)", () -> x.arm(0, 0, 0));
    }

    private static void manyCalls() {
        Due.says("An object is used for at most 512 calls");
        WheelPens x = new WheelPens();
        Due.kit(x, PLAIN);
        int calls = 5;
        for (; calls < 510; calls++) {
            x.draw(calls % 8, 0, 3 + calls % 58);
        }
        Due.due("the 511th call", x.draw(7, 0, 8), 8);
        Due.due("the 512th call", x.point(7, 1, 1), 48);
    }

    /** Of SPINS that are not whole: if a speed without an ARM counted, these PENS would CLOSE after 3. */
    private static void speedsWithoutArms() {
        Due.says("those of length 0 are none; CLOSES: with which all its speeds are whole");
        WheelPens x = whole("ring r 10;wheel a 3 in r;wheel b 5 on a at - 7/3;pen p a 0;pen q a 1;pen s b - 8;pen t b - 7;"
            + "pen u b 0;", 8);
        Due.due("the SPIN is -7/3", x.spin(0, 1), 3);
        Due.due("the SPIN is -7/3", x.spin(1, 1), 3);
        duePen(x, 0, 1, 0, 1, 7);
        duePen(x, 1, 3, 10, -7, 1, 3, 7);
        Due.says("ARMS of one speed are one (their lengths together): 8 - 8 is none, 8 - 7 and 8 are there");
        duePen(x, 2, 1, 0, 1, 7);
        duePen(x, 3, 3, 10, -7, 1, 3, 7);
        duePen(x, 4, 3, 10, -7, 8, 3, 7);
        Due.says("WINDINGS: speeds times C, in a drawing too");
        Due.due("draw(0, 0, 7)", x.draw(0, 0, 7), 7);
        Due.duePoint(x, 0, 1, "0 7 0 0 0 0");
        Due.due("draw(1, 3, 8)", x.draw(1, 3, 8), 8);
        Due.duePoint(x, 1, 1, "0 1 0 7");
    }

    /** A PEN CLOSES after so many turns, has these LOBES, and these ARMS, WINDING and length each. */
    private static void duePen(WheelPens x, int pen, int closes, int lobes, int... arms) {
        Due.due("closes(" + pen + ")", x.closes(pen), closes);
        Due.due("lobes(" + pen + ")", x.lobes(pen), lobes);
        Due.due("arms(" + pen + ")", x.arms(pen), arms.length / 2);
        for (int i = 0; i < arms.length; i++) {
            int arm = i / 2;
            int what = i % 2;
            Due.due("arm(" + pen + ", " + arm + ", " + what + ")", () -> x.arm(pen, arm, what), arms[i]);
        }
    }

    private static void risingWindings() {
        Due.says("Promise 9: by rising WINDINGS");
        WheelPens x = whole("ring r 94;wheel a 3 on r at 1/97;wheel b 80 on a at - 1/83;wheel c 9 on b at 1/89;"
            + "wheel d 70 on c at - 1/79;pen p d 1;", 6);
        Due.due("five ARMS at most", x.arms(0), 5);
        for (int i = 1; i < 5; i++) {
            Due.due("ARM " + i + " is above ARM " + (i - 1), x.arm(0, i - 1, 0) < x.arm(0, i, 0), true);
        }
        Due.dueThrow("arm(0, 5, 0)", () -> x.arm(0, 5, 0));
    }

    public static void main(String[] args) {
        newObject();
        feedAndEnd();
        bytesOfAKit();
        tokens();
        tokensThatCantCome();
        numbers();
        bases();
        names();
        howMany();
        spinsTooGreat();
        whichFault();
        speeds();
        kitAndFault();
        noSuchOnes();
        speedsWithoutArms();
        risingWindings();
        manyCalls();
        Due.report();
    }
}
