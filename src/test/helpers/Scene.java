import java.util.NoSuchElementException;
import java.util.function.LongSupplier;

/** An object in which every part of what it holds is set, and all that can be seen of it. It is kept
    small, so that two looks at it stay far below 512 calls. */
final class Scene {
    private Scene() {
    }

    static WheelPens make() {
        WheelPens x = new WheelPens();
        Due.kit(x, "ring r 96;wheel a 24 in r;wheel b 7 on a at 1/2;pen p a 24;pen s b - 1;");
        x.draw(0, 0, 3);
        Due.tell(x, 1, 1, 2, 1, 2, 9, 9, 1, 2);
        Due.tell(x, 2, 100, 0, 0, -100, 0, 0);
        Due.mix(x, 2, "100 c");
        Due.tell(x, 3, 1, 0, 2, 0, 3, 0);
        x.back(0);
        x.right(1);
        Due.made(x, 0, 2, 96, 48, 24);
        Due.kit(x, "ring r 2;");
        Due.numbers(x, 1, 2, 3, 4, 5, 6, 7);
        return x;
    }

    private static void put(StringBuilder all, LongSupplier call) {
        try {
            all.append(call.getAsLong()).append(' ');
        } catch (NoSuchElementException e) {
            all.append("- ");
        }
    }

    /** All but what fault() answers and the tape. */
    static String look(WheelPens x) {
        StringBuilder all = new StringBuilder("KIT ");
        for (int i = 0; i < 3; i++) {
            int n = i;
            put(all, () -> x.count(n));
            put(all, () -> x.spin(n, 0));
            put(all, () -> x.spin(n, 1));
            put(all, () -> x.closes(n));
            for (int k = 0; k < 4; k++) {
                int arm = k;
                put(all, () -> x.arm(n, arm, 0));
                put(all, () -> x.arm(n, arm, 1));
            }
        }
        for (int s = 0; s < 8; s++) {
            all.append("| SHEET ").append(x.about(s, 0)).append(' ');
            for (int k = 0; k < x.about(s, 0); k++) {
                all.append(Due.point(x, s, k)).append(' ');
            }
        }
        all.append("| back() ");
        for (int i = 0; i < 4; i++) {
            int n = i;
            put(all, () -> x.backAt(n, 0));
            put(all, () -> x.backAt(n, 1));
        }
        all.append("| right() ").append(x.wrong()).append(' ');
        for (int i = 0; i < 3; i++) {
            int n = i;
            put(all, () -> x.rightAt(n));
        }
        all.append("| made() ");
        for (int k = 0; k < 3; k++) {
            for (int what = 0; what < 4; what++) {
                int n = k;
                int w = what;
                put(all, () -> x.madeAt(n, w));
            }
        }
        return all.toString();
    }

    /** The tape's bytes; it is another one then, and so is SHEET 7. */
    static String tape(WheelPens x) {
        int bytes = x.count(4);
        if (bytes < 6) {
            return "of " + bytes;
        }
        x.end(6);
        x.tell(7);
        return "of " + bytes + ": " + Due.point(x, 7, 0) + " " + Due.point(x, 7, 1) + " " + Due.point(x, 7, 2);
    }
}
