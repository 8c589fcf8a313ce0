import java.util.NoSuchElementException;
import java.util.function.ToLongFunction;

/** What a call must leave as it was: one that throws changes nothing, one that is refused leaves all but
    the tape and fault(), one that tells only leaves all. Each call goes to an object of its own. */
public final class StaysTest {
    private static final String FULL_TAPE = "of 7: 1 2 3 4 5 6";
    private static final int[] NO_SHEETS = {-1, 8, Integer.MIN_VALUE, Integer.MAX_VALUE};
    private static final int[] FAR = {Integer.MIN_VALUE, -1, 61, 1000, Integer.MAX_VALUE};

    private static void stays(String name, ToLongFunction<WheelPens> call) {
        WheelPens x = Scene.make();
        String ahead = Scene.look(x);
        try {
            call.applyAsLong(x);
        } catch (NoSuchElementException e) {
            // may be so
        }
        Due.due("what is seen behind " + name, Scene.look(x), ahead);
        Due.due("fault() behind " + name, x.fault(), 2);
        Due.due("the tape behind " + name, Scene.tape(x), FULL_TAPE);
    }

    private static void throwing(String name, ToLongFunction<WheelPens> call) {
        Due.dueThrow(name, () -> call.applyAsLong(Scene.make()));
        stays(name, call);
    }

    private static void refused(String name, long answer, ToLongFunction<WheelPens> call) {
        Due.due(name, call.applyAsLong(Scene.make()), answer);
        stays(name, call);
    }

    /** A call that takes the tape and is refused: the tape is empty then. */
    private static void takesTape(String name, long answer, int fault, ToLongFunction<WheelPens> call) {
        WheelPens x = Scene.make();
        String ahead = Scene.look(x);
        Due.due(name, call.applyAsLong(x), answer);
        Due.due("what is seen behind " + name, Scene.look(x), ahead);
        Due.due("fault() behind " + name, x.fault(), fault);
        Due.due("the tape behind " + name, Scene.tape(x), "of 0");
    }

    private static void scene() {
        Due.says("the scene has all that can change");
        WheelPens x = Scene.make();
        Due.due("what is seen", Scene.look(x), "KIT 1 -3 1 1 -3 24 1 72 - - - - 2 25 2 2 1 31 2 72 25 -1 - - "
            + "2 - - -1 - - - - - - - - | SHEET 3 96 0 24 72 -48 -72 | SHEET 4 1 2 1 2 9 9 1 2 "
            + "| SHEET 3 10000 0 0 -10000 0 0 | SHEET 3 1 0 2 0 3 0 | SHEET -1 | SHEET -1 | SHEET -1 | SHEET -1 "
            + "| back() 0 24 1 72 -1 -1 -1 -1 | right() 2 1 2 - | made() 0 0 0 24 1 0 1 24 - - - - ");
        Due.due("fault()", x.fault(), 2);
        Due.due("the tape", Scene.tape(x), FULL_TAPE);
    }

    private static void throwsAll() {
        Due.says("A call that throws changes nothing");
        for (int far : FAR) {
            throwing("spin(" + far + ", 0)", x -> x.spin(far, 0));
            throwing("spin(0, " + far + ")", x -> x.spin(0, far));
            throwing("arm(" + far + ", 0, 0)", x -> x.arm(far, 0, 0));
            throwing("arm(0, " + far + ", 0)", x -> x.arm(0, far, 0));
            throwing("arm(0, 0, " + far + ")", x -> x.arm(0, 0, far));
            throwing("point(" + far + ", 0, 0)", x -> x.point(far, 0, 0));
            throwing("point(0, " + far + ", 0)", x -> x.point(0, far, 0));
            throwing("point(0, 0, " + far + ")", x -> x.point(0, 0, far));
            throwing("area(" + far + ", 0)", x -> x.area(far, 0));
            throwing("area(0, " + far + ")", x -> x.area(0, far));
            throwing("rightAt(" + far + ")", x -> x.rightAt(far));
            throwing("madeAt(" + far + ", 0)", x -> x.madeAt(far, 0));
            throwing("madeAt(0, " + far + ")", x -> x.madeAt(0, far));
        }
        throwing("spin(2, 0)", x -> x.spin(2, 0));
        throwing("arm(2, 0, 0)", x -> x.arm(2, 0, 0));
        throwing("arm(0, 2, 0)", x -> x.arm(0, 2, 0));
        throwing("point(7, 0, 0)", x -> x.point(7, 0, 0));
        throwing("point(0, 3, 0)", x -> x.point(0, 3, 0));
        throwing("point(0, 0, 2)", x -> x.point(0, 0, 2));
        throwing("area(7, 0)", x -> x.area(7, 0));
        throwing("area(0, 2)", x -> x.area(0, 2));
        throwing("rightAt(2)", x -> x.rightAt(2));
        throwing("madeAt(2, 0)", x -> x.madeAt(2, 0));
        throwing("madeAt(0, 4)", x -> x.madeAt(0, 4));
    }

    private static void refusedOfSheets() {
        Due.says("NONE: no such SHEET, or it is none: all stays");
        for (int s : NO_SHEETS) {
            refused("draw(" + s + ", 0, 8)", -1, x -> x.draw(s, 0, 8));
            refused("wipe(" + s + ")", 0, x -> x.wipe(s) ? 1 : 0);
            refused("about(" + s + ", 2)", -1, x -> x.about(s, 2));
            refused("same(" + s + ", 0)", -1, x -> x.same(s, 0));
            refused("one(" + s + ", 0)", -2, x -> x.one(s, 0));
            refused("again(" + s + ", 1)", -1, x -> x.again(s, 1));
            refused("product(" + s + ", 0, 0)", -1, x -> x.product(s, 0, 0));
            refused("product(4, " + s + ", 0)", -1, x -> x.product(4, s, 0));
            refused("product(4, 0, " + s + ")", -1, x -> x.product(4, 0, s));
            refused("shared(" + s + ", 0)", -2, x -> x.shared(s, 0));
            refused("back(" + s + ")", -1, x -> x.back(s));
            refused("right(" + s + ")", -1, x -> x.right(s));
            refused("drawnBy(" + s + ")", -1, x -> x.drawnBy(s));
        }
        refused("wipe(7)", 0, x -> x.wipe(7) ? 1 : 0);
        refused("back(7)", -1, x -> x.back(7));
        refused("right(7)", -1, x -> x.right(7));
        refused("drawnBy(7)", -1, x -> x.drawnBy(7));
        refused("product(7, 0, 7)", -1, x -> x.product(7, 0, 7));
        refused("product(0, 0, 1)", -1, x -> x.product(0, 0, 1));
        refused("one(0, 1)", -2, x -> x.one(0, 1));
        refused("shared(0, 1)", -2, x -> x.shared(0, 1));
        Due.says("-2000: it stays");
        refused("product(0, 2, 2)", -2000, x -> x.product(0, 2, 2));
        refused("product(2, 2, 2)", -2000, x -> x.product(2, 2, 2));
        refused("product(7, 2, 2)", -2000, x -> x.product(7, 2, 2));
    }

    private static void refusedOfOthers() {
        Due.says("NONE: no such ones: all stays");
        refused("draw(0, 2, 8)", -1, x -> x.draw(0, 2, 8));
        refused("draw(0, -1, 8)", -1, x -> x.draw(0, -1, 8));
        refused("draw(0, 0, 2)", -1, x -> x.draw(0, 0, 2));
        refused("draw(7, 0, 61)", -1, x -> x.draw(7, 0, 61));
        refused("closes(2)", -1, x -> x.closes(2));
        refused("arms(2)", -1, x -> x.arms(2));
        refused("lobes(2)", -1, x -> x.lobes(2));
        refused("backAt(2, 0)", -1, x -> x.backAt(2, 0));
        refused("count(5)", -1, x -> x.count(5));
        Due.says("Promise 3: false");
        refused("end(8)", 0, x -> x.end(8) ? 1 : 0);
        refused("end(-1)", 0, x -> x.end(-1) ? 1 : 0);
        refused("end(7)", 1, x -> x.end(7) ? 1 : 0);
    }

    private static void takeTheTape() {
        Due.says("Promise 4: -1 less the place of a FAULT: it stays; the tape is empty then");
        takesTape("kit() of the tape", -1, 1, WheelPens::kit);
        takesTape("kit() with FAULT 3", -7, 3, x -> Due.kit(x, "pen p a 1;"));
        takesTape("kit() with FAULT 5", -34, 5, x -> Due.kit(x, "ring r 3;wheel a 200 on r at 1/50;"));
        Due.says("Promise 12: NONE");
        takesTape("tell(0) of 7 bytes", -1, 2, x -> x.tell(0));
        takesTape("tell(7) of 7 bytes", -1, 2, x -> x.tell(7));
        takesTape("tell(0) of 4 bytes", -1, 2, x -> Due.tell(x, 0, 1, 2, 3, 4));
        takesTape("tell(0) of 122 bytes", -1, 2, x -> Due.tell(x, 0, new int[122]));
        takesTape("tell(8)", -1, 2, x -> Due.tell(x, 8, 1, 2, 3, 4, 5, 6));
        takesTape("tell(-1)", -1, 2, x -> Due.tell(x, -1, 1, 2, 3, 4, 5, 6));
        Due.says("Promise 13: it stays, then");
        takesTape("mix(0) with FAULT 1", -2, 1, x -> Due.mix(x, 0, "a!"));
        takesTape("mix(0) with FAULT 3", -3, 3, x -> Due.mix(x, 0, "a+b"));
        takesTape("mix(7) with FAULT 3", -1, 3, x -> Due.mix(x, 7, "h"));
        takesTape("mix(7) with FAULT 2", -24, 2, x -> Due.mix(x, 7, "a" + "+a".repeat(12)));
        takesTape("mix(0) of too great ones", -2000, 0, x -> Due.mix(x, 0, "101 c"));
        takesTape("mix(2) of too great ones", -2000, 0, x -> Due.mix(x, 2, "101 c"));
        takesTape("mix(7) of too great ones", -2000, 0, x -> Due.mix(x, 7, "-101 c"));
        for (int s : NO_SHEETS) {
            takesTape("mix(" + s + ")", -1000, 2, x -> Due.mix(x, s, "a"));
            takesTape("mix(" + s + ") of the tape", -1000, 2, x -> x.mix(s));
            takesTape("made(" + s + ", 1)", -1, 2, x -> Due.made(x, s, 1, 96, 24));
        }
        Due.says("Promise 29: -2, NONE");
        takesTape("made(0, 1) of the tape", -2, 2, x -> x.made(0, 1));
        takesTape("made(0, 0)", -2, 2, x -> Due.made(x, 0, 0, 96, 24));
        takesTape("made(0, 2)", -2, 2, x -> Due.made(x, 0, 2, 96, 24));
        takesTape("made(7, 1)", -1, 2, x -> Due.made(x, 7, 1, 96, 24));
        takesTape("made(1, 1)", -1, 2, x -> Due.made(x, 1, 1, 96, 24));
    }

    private static void feedRefused() {
        Due.says("Promise 2: NONE, and none come");
        WheelPens x = Scene.make();
        String ahead = Scene.look(x);
        for (int bytes = 27; bytes <= 627; bytes += 20) {
            Due.due("feed", x.feed(0, 0, 0, 0, 0), bytes);
        }
        Due.due("feed to 647", x.feed(-1, -1, -1, -1, -1), -1);
        Due.due("what is seen", Scene.look(x), ahead);
        Due.due("fault()", x.fault(), 2);
        Due.due("the tape", Scene.tape(x), "of 627: 1 2 3 4 5 6");
    }

    private static void telling() {
        Due.says("a call that tells only changes nothing");
        stays("count(4)", x -> x.count(4));
        stays("closes(1)", x -> x.closes(1));
        stays("lobes(1)", x -> x.lobes(1));
        for (int s = 0; s < 4; s++) {
            int sheet = s;
            for (int w = 0; w < 5; w++) {
                int what = w;
                stays("about(" + s + ", " + w + ")", x -> x.about(sheet, what));
                stays("same(" + s + ", " + w + ")", x -> x.same(sheet, what));
                stays("again(" + s + ", " + w + ")", x -> x.again(sheet, what));
                stays("one(" + s + ", " + w + ")", x -> x.one(sheet, what));
                stays("shared(" + s + ", " + w + ")", x -> x.shared(sheet, what));
            }
            stays("area(" + s + ", 0)", x -> x.area(sheet, 0));
            stays("drawnBy(" + s + ")", x -> x.drawnBy(sheet));
        }
        stays("back(0) once more", x -> x.back(0));
        stays("right(1) once more", x -> x.right(1));
    }

    /** Of back(), right() and made() each sets what its own *At() answers and nothing else. */
    private static void setsItsOwnAlone() {
        Due.says("by the latest back(), right(), made()");
        WheelPens x = Scene.make();
        String[] ahead = Scene.look(x).split("\\|");
        x.back(3);
        dueOthers(x, ahead, " back()");
        x = Scene.make();
        x.right(3);
        dueOthers(x, ahead, " right()");
        x = Scene.make();
        Due.made(x, 0, 1, 48, 24);
        dueOthers(x, ahead, " made()");
    }

    private static void dueOthers(WheelPens x, String[] ahead, String own) {
        String[] behind = Scene.look(x).split("\\|");
        for (int i = 0; i < ahead.length; i++) {
            if (behind[i].startsWith(own)) {
                Due.due(own + " is set", behind[i].equals(ahead[i]), false);
            } else {
                Due.due("behind" + own, behind[i], ahead[i]);
            }
        }
    }

    public static void main(String[] args) {
        scene();
        throwsAll();
        refusedOfSheets();
        refusedOfOthers();
        takeTheTape();
        feedRefused();
        telling();
        setsItsOwnAlone();
        Due.report();
    }
}
