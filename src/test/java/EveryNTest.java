import java.util.HashSet;
import java.util.Set;

/** Each question is asked of SHEETS of the least N (3), the greatest N (60) and the greatest p (N 59),
    one behind the other and more than once, so that nothing of one N is left over for the next. */
public final class EveryNTest {
    private static final int[] NS = {3, 59, 60};
    private static final int ROUNDS = 3;

    private static int upper(int k) {
        return k + 1;
    }

    private static int lower(int k) {
        return k * k % 97 - 100;
    }

    /** SHEETS 0 to 2 are told, POINT k being upper + lower z; 3 to 5 are drawn: 72 turns once, 24 by -3. */
    private static WheelPens make() {
        WheelPens x = new WheelPens();
        for (int s = 0; s < 3; s++) {
            int[] pairs = new int[2 * NS[s]];
            for (int k = 0; k < NS[s]; k++) {
                pairs[2 * k] = upper(k);
                pairs[2 * k + 1] = lower(k);
            }
            Due.due("tell(" + s + ")", Due.tell(x, s, pairs), NS[s]);
        }
        Due.kit(x, "ring r 96;wheel a 24 in r;pen p a 24;pen q a 23;");
        for (int s = 0; s < 3; s++) {
            Due.due("draw", x.draw(3 + s, 0, NS[s]), NS[s]);
        }
        return x;
    }

    private static void points() {
        Due.says("Promise 15, 16: N, p and each number");
        WheelPens x = make();
        int[] p = {2, 58, 16};
        for (int s = 0; s < 3; s++) {
            Due.due("N", x.about(s, 0), NS[s]);
            Due.due("p", x.about(s, 1), p[s]);
            Due.due("UNLIKE", x.about(s, 2), NS[s]);
            Due.due("most often", x.about(s, 3), 1);
            Due.due("twice", x.about(s, 4), -1);
            for (int k : new int[] {0, 1, NS[s] - 1}) {
                Due.due("upper", x.point(s, k, 0), upper(k));
                Due.due("lower", x.point(s, k, 1), lower(k));
                for (int i = 2; i < p[s]; i++) {
                    Due.due("behind them", x.point(s, k, i), 0);
                }
            }
        }
    }

    private static void sets() {
        Due.says("Promise 17: TURNINGS, MIRRORS, DISTANCES");
        WheelPens x = make();
        for (int round = 0; round < ROUNDS; round++) {
            for (int s = 0; s < 3; s++) {
                Set<String> apart = new HashSet<>();
                for (int k = 0; k < NS[s]; k++) {
                    int a = upper(k);
                    int b = lower(k);
                    /* For N 3, z and its MIRRORED one are -1 together. */
                    apart.add(s == 0 ? "" + (a * a + b * b - a * b) : (a * a + b * b) + " " + a * b);
                }
                Due.due("DISTANCES of " + NS[s], x.same(s, 2), apart.size());
            }
            for (int s = 0; s < 3; s++) {
                Due.due("TURNINGS of " + NS[s], x.same(s, 0), 1);
            }
            for (int s = 0; s < 3; s++) {
                Due.due("MIRRORS of " + NS[s], x.same(s, 1), 0);
            }
            for (int s = 3; s < 6; s++) {
                Due.due("MIRRORS of a drawing", x.same(s, 1), s == 5 ? 4 : 1);
                Due.due("TURNINGS of a drawing", x.same(s, 0), s == 5 ? 4 : 1);
            }
        }
    }

    private static void areas() {
        Due.says("Promise 18: AREA");
        WheelPens x = make();
        String[] want = {"1 2", "1 2" + " 1".repeat(56), "0 2 0 0 0 -1 0 -1 0 -1 0 0 0 1 0 1"};
        for (int round = 0; round < ROUNDS; round++) {
            for (int s = 0; s < 3; s++) {
                long area = 0;
                for (int k = 0; k < NS[s]; k++) {
                    int next = (k + 1) % NS[s];
                    area += (long) upper(k) * lower(next) - (long) upper(next) * lower(k);
                }
                String[] numbers = want[s].split(" ");
                for (int i = 0; i < numbers.length; i += 1 + round) {
                    Due.due("AREA of " + NS[s] + ", number " + i, x.area(s, i), area * Long.parseLong(numbers[i]));
                    x.area((s + 1) % 3, 0);
                }
            }
        }
    }

    private static void ones() {
        Due.says("Promise 19, 20: ONE, PERIOD, SELVES");
        WheelPens x = make();
        for (int s = 0; s < 3; s++) {
            int last = NS[s] - 1;
            Due.mix(x, 3 + s, (char) ('a' + s) + " mirror turn " + last + " from " + last);
        }
        for (int round = 0; round < ROUNDS; round++) {
            for (int s = 0; s < 3; s++) {
                int last = NS[s] - 1;
                Due.due("MIRRORED one of " + NS[s], x.one(s, 3 + s), 10000 + 101 * last);
                Due.due("the other way", x.one(3 + s, s), 10000 + 100 * last + 1);
            }
            for (int s = 0; s < 3; s++) {
                Due.due("SELVES of " + NS[s], x.again(s, 1), 1);
                Due.due("SELVES of " + NS[2 - s], x.again(5 - s, 1), 1);
            }
            for (int s = 0; s < 3; s++) {
                Due.due("PERIOD of " + NS[s], x.again(s, 0), NS[s]);
                Due.due("one with itself", x.one(s, s), 0);
            }
        }
        for (int s = 0; s < 3; s++) {
            Due.tell(x, 3 + s, new int[2 * NS[s]]);
        }
        for (int round = 0; round < ROUNDS; round++) {
            for (int s = 0; s < 3; s++) {
                Due.due("SELVES of noughts", x.again(3 + s, 1), NS[s] * NS[s]);
                Due.due("PERIOD of noughts", x.again(3 + s, 0), 1);
            }
        }
        for (int s = 0; s < 3; s++) {
            int last = NS[s] - 1;
            Due.mix(x, 3 + s, (char) ('a' + s) + " turn " + last + " from " + last);
            Due.due("plain one of " + NS[s], x.one(s, 3 + s), 101 * last);
            Due.due("SHARED", x.shared(s, 3 + s), 0);
            Due.due("SHARED with itself", x.shared(s, s), NS[s]);
        }
    }

    private static void products() {
        Due.says("Promise 21: PRODUCT");
        WheelPens x = make();
        Due.due("of 60", x.product(6, 2, 2), 60);
        Due.due("upper times upper", x.point(6, 59, 0), 60 * 60);
        Due.due("2 upper times lower", x.point(6, 59, 1), 2 * 60 * lower(59));
        Due.due("lower times lower", x.point(6, 59, 2), lower(59) * lower(59));
        Due.mix(x, 7, "b turn 57");
        Due.due("of 59, by the highest powers", x.product(7, 7, 7), 59);
        Due.due("upper times upper z^114", x.point(7, 58, 55), 59 * 59);
        Due.due("2 upper times lower z^115", x.point(7, 58, 56), 2 * 59 * lower(58));
        Due.due("lower times lower z^116", x.point(7, 58, 57), lower(58) * lower(58));
        Due.due("nothing else", x.point(7, 58, 54), 0);
        Due.due("of 3", x.product(6, 0, 0), 3);
        Due.due("number 0", x.point(6, 2, 0), 9 - lower(2) * lower(2));
        Due.due("number 1", x.point(6, 2, 1), 6 * lower(2) - lower(2) * lower(2));
        Due.says("of 5: z^3 times z^3 is z, z^2 times z^3 is 1, and -1 counts");
        Due.tell(x, 0, 0, 1, 0, -1, 0, 0, 0, 0, 0, 0);
        Due.mix(x, 1, "a turn 2");
        x.product(2, 1, 1);
        Due.duePoint(x, 2, 0, "0 1 0 0");
        Due.duePoint(x, 2, 1, "0 1 0 0");
        Due.mix(x, 2, "a turn 1");
        x.product(3, 1, 2);
        Due.duePoint(x, 3, 0, "1 0 0 0");
        Due.mix(x, 2, "-a turn 1");
        x.product(3, 1, 2);
        Due.duePoint(x, 3, 0, "-1 0 0 0");
    }

    private static void arm(WheelPens x, int i, long f, long length) {
        Due.due("f", x.backAt(i, 0), f);
        Due.due("length", x.backAt(i, 1), length);
        Due.due("PLAIN", x.backAt(i, 2), 1);
    }

    private static void armsBack() {
        Due.says("Promise 23, 24: ARMS told back");
        WheelPens x = make();
        for (int round = 0; round < ROUNDS; round++) {
            for (int s = 0; s < 3; s++) {
                Due.due("ARMS of a drawing for " + NS[s], x.back(3 + s), 2);
                arm(x, s == 0 ? 1 : 0, 1, 72);
                arm(x, s == 0 ? 0 : 1, s == 0 ? 0 : NS[s] - 3, 24);
            }
        }
        for (int s = 2; s >= 0; s--) {
            Due.due("ARMS of what was told for " + NS[s], x.back(s), NS[s]);
            Due.due("the last f", x.backAt(NS[s] - 1, 0), NS[s] - 1);
            Due.due("not PLAIN", x.backAt(NS[s] - 1, 2), 0);
        }
    }

    private static void right() {
        Due.says("Promise 25 to 27: a wrong last POINT of each N");
        WheelPens x = make();
        int[] first = new int[60];
        int[] arms = {2, 2, 2};
        for (int round = 0; round < ROUNDS; round++) {
            for (int s = 1; s < 3; s++) {
                int n = NS[s];
                int[] pairs = new int[2 * n];
                pairs[2 * n - 2] = 5;
                pairs[2 * n - 1] = -7;
                Due.tell(x, 6, pairs);
                Due.mix(x, 6, "g+" + (char) ('d' + s));
                for (int i = 0; i < 60 && i < x.about(6, 1); i++) {
                    first[i] = (int) x.point(3 + s, n - 1, i);
                }
                x.one(0, 0);
                Due.due("ARMS then", x.right(6), arms[s]);
                Due.due("wrong()", x.wrong(), n - 1);
                for (int i = 0; i < x.about(6, 1); i++) {
                    Due.due("rightAt(" + i + ")", x.rightAt(i), first[i]);
                }
            }
            Due.due("a drawing for 3: a change leaves two", x.right(3), 2);
            Due.due("wrong()", x.wrong(), -1);
        }
        Due.says("the least f, whatever was right ahead of it");
        Due.tell(x, 6, 0, 0, 7, 7, -7, 7, 9, 9);
        x.right(6);
        Due.tell(x, 7, 1, 2, 3, 4, 5, 6, 8, 8, 9, 1, 2, 2, 7, 0);
        Due.due("right(7)", x.right(7), 6);
        Due.due("rightAt(0)", x.rightAt(0), -34);
        Due.due("rightAt(1)", x.rightAt(1), -21);
    }

    private static void drawnBy() {
        Due.says("Promise 28, 29: DRAWN BY, BOX");
        WheelPens x = make();
        for (int round = 0; round < ROUNDS; round++) {
            for (int s = 0; s < 3; s++) {
                Due.due("a drawing for " + NS[s], x.drawnBy(3 + s), 1);
                x.area((s + 1) % 3, 0);
                Due.due("MADE for " + NS[s], Due.made(x, 3 + s, 1, 96, 24), 1);
                x.area((s + 1) % 3, 0);
            }
            for (int s = 0; s < 3; s++) {
                Due.due("no drawing for " + NS[s], x.drawnBy(s), 0);
            }
        }
    }

    public static void main(String[] args) {
        points();
        sets();
        areas();
        ones();
        products();
        armsBack();
        right();
        drawnBy();
        Due.report();
    }
}
