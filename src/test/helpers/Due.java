import java.nio.charset.StandardCharsets;
import java.util.NoSuchElementException;
import java.util.function.LongSupplier;

/** What tests share: answers held against those that are due, and texts put on a tape. */
public final class Due {
    private static int wrong;
    private static int seen;
    private static String sentence = "";

    private Due() {
    }

    /** The sentence of the document that the answers behind this are about. */
    static void says(String words) {
        sentence = "[" + words + "] ";
    }

    private static void tellWrong(String words) {
        wrong++;
        System.out.println(sentence + words);
    }

    static void due(String call, long got, long want) {
        seen++;
        if (got != want) {
            tellWrong(call + " answered " + got + ", due is " + want);
        }
    }

    static void due(String call, String got, String want) {
        seen++;
        if (!got.equals(want)) {
            tellWrong(call + " is " + got + ", due is " + want);
        }
    }

    /** As above, for a call that may throw where it must not: that is told as a wrong answer, too. */
    static void due(String call, LongSupplier it, long want) {
        try {
            due(call, it.getAsLong(), want);
        } catch (NoSuchElementException e) {
            seen++;
            tellWrong(call + " threw a NoSuchElementException, due is " + want);
        }
    }

    static void due(String call, boolean got, boolean want) {
        due(call, got ? 1 : 0, want ? 1 : 0);
    }

    static void dueThrow(String call, LongSupplier it) {
        seen++;
        try {
            long got = it.getAsLong();
            tellWrong(call + " answered " + got + ", due is a NoSuchElementException");
        } catch (NoSuchElementException e) {
            // as due
        }
    }

    /** The tape is emptied and these bytes are put on it. */
    static void bytes(WheelPens x, byte... b) {
        x.end(0);
        for (int at = 0; at < b.length; at += 20) {
            int[] v = new int[5];
            for (int i = 0; i < 20; i++) {
                v[i / 4] = v[i / 4] << 8 | (at + i < b.length ? b[at + i] & 255 : 'z');
            }
            x.feed(v[0], v[1], v[2], v[3], v[4]);
        }
        x.end(b.length);
    }

    static void text(WheelPens x, String text) {
        bytes(x, text.getBytes(StandardCharsets.ISO_8859_1));
    }

    static void numbers(WheelPens x, int... numbers) {
        byte[] b = new byte[numbers.length];
        for (int i = 0; i < b.length; i++) {
            b[i] = (byte) numbers[i];
        }
        bytes(x, b);
    }

    static int kit(WheelPens x, String text) {
        text(x, text);
        return x.kit();
    }

    static int mix(WheelPens x, int sheet, String text) {
        text(x, text);
        return x.mix(sheet);
    }

    static int tell(WheelPens x, int sheet, int... numbers) {
        numbers(x, numbers);
        return x.tell(sheet);
    }

    static int made(WheelPens x, int sheet, int n, int... teeth) {
        numbers(x, teeth);
        return x.made(sheet, n);
    }

    /** The numbers of a POINT, one behind the other. */
    static String point(WheelPens x, int sheet, int k) {
        StringBuilder all = new StringBuilder();
        for (int i = 0; i < x.about(sheet, 1); i++) {
            all.append(i == 0 ? "" : " ").append(x.point(sheet, k, i));
        }
        return all.toString();
    }

    static void duePoint(WheelPens x, int sheet, int k, String want) {
        due("POINT " + k + " of SHEET " + sheet, point(x, sheet, k), want);
    }

    static void report() {
        System.out.println(wrong == 0 ? seen + " answers are as due" : wrong + " answers are not as due");
        if (wrong != 0) {
            System.exit(1);
        }
    }
}
