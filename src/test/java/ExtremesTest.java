import java.util.NoSuchElementException;

/** Every call with numbers of all sizes, in many states: only NoSuchElementException may be thrown,
    and only where the document names it. */
public final class ExtremesTest {
    private static final int[] ODD = {Integer.MIN_VALUE, -1000000, -1, 0, 1, 2, 3, 4, 5, 7, 8, 9, 12, 13, 20, 39, 40, 57, 58, 59, 60, 61,
        99, 100, 200, 600, 640, 1000000, Integer.MAX_VALUE - 1, Integer.MAX_VALUE};

    private static void throwing(Runnable call) {
        try {
            call.run();
        } catch (NoSuchElementException e) {
            // may be so
        }
    }

    private static void throwing(WheelPens x, int a, int b, int c) {
        throwing(() -> x.spin(a, b));
        throwing(() -> x.arm(a, b, c));
        throwing(() -> x.point(a, b, c));
        throwing(() -> x.area(a, b));
        throwing(() -> x.rightAt(a));
        throwing(() -> x.madeAt(a, b));
    }

    private static void plain(WheelPens x, int a, int b, int c) {
        x.fault();
        x.closes(a);
        x.arms(a);
        x.lobes(a);
        x.about(a, b);
        x.same(a, b);
        x.one(a, b);
        x.again(a, b);
        x.shared(a, b);
        x.back(a);
        x.backAt(a, b);
        x.right(a);
        x.wrong();
        x.drawnBy(a);
        x.count(a);
        x.draw(a, b, c);
        x.product(a, b, c);
        x.feed(a, b, c, a, b);
        x.end(c);
    }

    private static void onTape(WheelPens x, int a, int b) {
        x.feed(a, b, a ^ b, a + b, a * 31 + b);
        x.tell(a);
        x.feed(a, b, a ^ b, a + b, a * 31 + b);
        x.mix(b);
        x.feed(a, b, a ^ b, a + b, a * 31 + b);
        x.made(a, b);
        x.feed(a, b, a ^ b, a + b, a * 31 + b);
        x.end(a);
        x.kit();
    }

    private static void use(WheelPens x) {
        for (int a : ODD) {
            for (int b : ODD) {
                onTape(x, a, b);
                for (int c : ODD) {
                    throwing(x, a, b, c);
                }
                plain(x, a, b, ODD[(a ^ b) & 15]);
            }
        }
    }

    public static void main(String[] args) {
        use(new WheelPens());
        for (int n = 3; n <= 60; n += 19) {
            WheelPens x = new WheelPens();
            Due.kit(x, "ring r 96;wheel a 24 in r;wheel b 7 on a at 3/5;pen p a 24;pen q b 9;");
            x.draw(0, 0, n);
            x.draw(1, 1, n);
            Due.tell(x, 2, new int[2 * n]);
            use(x);
        }
        System.out.println("no call threw what it must not");
    }
}
