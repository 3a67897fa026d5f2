import java.lang.reflect.Field;
import java.lang.reflect.Method;

/**
 * The limits that the 512 calls of a roll's use can't come near: 2000 ACTS, 4000 pass()es, 40000 ints of
 * the image and of the tape. What later calls answer is free, so no test may come there by calls: what is
 * inside of the roll is brought near its limit without the face, and less than 512 calls then ask at the
 * limit. Where the class keeps its state under other names, there is nothing that this test can ask.
 */
public final class LimitsTest {
    private static final int NONE = BoilerRoll.NONE;
    private static final int RANGE = BoilerRoll.RANGE;
    private static final int STATE = BoilerRoll.STATE;
    private static final int FULL = BoilerRoll.FULL;

    private static int wrong = 0;
    private static String sentence = "";

    /** Names the sentence that the calls behind this are about. */
    private static void of(String where, String words) {
        sentence = where + ", \"" + words + "\": ";
    }

    /** The same, with the one case of it that they are about. */
    private static void of(String where, String words, String which) {
        sentence = where + ", \"" + words + "\" (" + which + "): ";
    }

    private static void due(String told, long got, long want) {
        if (got != want) {
            wrong++;
            System.out.println(sentence + told + " answered " + got + ", due is " + want);
        }
    }

    /** An answer, and what status() tells of it. */
    private static void told(BoilerRoll x, String told, int got, int want) {
        due(told, got, want);
        due("status() after " + told, x.status(), want < 0 ? want : 0);
    }

    private static Object inside(BoilerRoll x, String name) throws ReflectiveOperationException {
        Field field = BoilerRoll.class.getDeclaredField(name);
        field.setAccessible(true);
        return field.get(x);
    }

    private static void often(int times, Object object, String name, int... numbers) throws ReflectiveOperationException {
        Class<?>[] types = new Class<?>[numbers.length];
        Object[] given = new Object[numbers.length];
        for (int i = 0; i < numbers.length; i++) {
            types[i] = int.class;
            given[i] = numbers[i];
        }
        Method method = object.getClass().getDeclaredMethod(name, types);
        method.setAccessible(true);
        for (int i = 0; i < times; i++) {
            method.invoke(object, given);
        }
    }

    private static void onTape(BoilerRoll x, int times, int... row) throws ReflectiveOperationException {
        Object tape = inside(x, "tape");
        for (int i = 0; i < times; i++) {
            for (int n : row) {
                often(1, tape, "add", n);
            }
        }
    }

    /** Today is 100; vessel 0 of day 50: a shell, a tube, a valve; so many acts stand. */
    private static BoilerRoll withActs(int acts) throws ReflectiveOperationException {
        BoilerRoll x = new BoilerRoll();
        x.pass(100);
        x.vessel(3, 4, 500, 50);
        x.part(0, 0, 4000, 10, 100, 1000);
        x.part(0, 2, 4000, 10, 100, 1000);
        x.valve(0, 300, 400, 60);
        often(acts - 4, inside(x, "roll"), "enterRule", 0, 5, 5);
        return x;
    }

    private static int act(BoilerRoll x, int code, boolean right) {
        int day = right ? 100 : 101;
        switch (code) {
            case 1:
                return x.vessel(0, 1, 0, day);
            case 2:
                return x.part(0, right ? 0 : 5, 1, 1, 1, 1);
            case 3:
                return x.shape(0, 0, right ? 1 : 13, 0, 1);
            case 4:
                x.sheet(0, 1);
                return x.measure(0, 0, day);
            case 5:
                return x.patch(0, 0, 1, 1, 1, day);
            case 6:
                return x.plate(0, 0, 1, day);
            case 7:
                return x.plug(0, 1, 0, day);
            case 8:
                return x.valve(0, 1, 1, day);
            case 9:
                return x.set(0, 0, 1, day);
            case 10:
                return x.paper(0, 0, 0, 0, day);
            default:
                return x.rule(right ? 1 : 3, 1, 1);
        }
    }

    private static void twoThousandActs() throws ReflectiveOperationException {
        of("Terms 1", "FULL (-4); in this order, if nothing else is told [..] At most 2000 ACTS stand");
        for (int code = 1; code <= 11; code++) {
            BoilerRoll x = withActs(1998);
            due("code " + code + ", the 1999th, whether it is accepted", act(x, code, true) >= 0 ? 1 : 0, 1);
            due("code " + code + ", acts", x.count(2, 0), 1999);
            x.undo();
            often(1, inside(x, "roll"), "enterRule", 0, 5, 5);
            due("code " + code + ", the 2000th, whether it is accepted", act(x, code, true) >= 0 ? 1 : 0, 1);
            due("code " + code + ", acts", x.count(2, 0), 2000);
            for (int other = 1; other <= 11; other++) {
                if (other != 3) {
                    told(x, "code " + other + ", a wrong 2001st", act(x, other, false), RANGE);
                    told(x, "code " + other + ", the 2001st", act(x, other, true), FULL);
                }
            }
            due("acts then", x.count(2, 0), 2000);
            told(x, "a pass is no act", x.pass(100), 100);
        }
    }

    private static void shapeOfAFullRoll() throws ReflectiveOperationException {
        of("Promise 5", "NONE; RANGE; STATE: an ACT of the part but part() and shape() stands; FULL");
        BoilerRoll x = withActs(1999);
        told(x, "the 2000th", x.plate(0, 1, 1, 100), 1);
        told(x, "no part", x.shape(0, 2, 1, 0, 1), NONE);
        told(x, "a wrong one", x.shape(0, 0, 0, 0, 1), RANGE);
        told(x, "a wrong one of a part with an act", x.shape(0, 1, 0, 0, 1), RANGE);
        told(x, "of a part with an act", x.shape(0, 1, 1, 0, 1), STATE);
        told(x, "of a part without", x.shape(0, 0, 1, 0, 1), FULL);
        x.undo();
        told(x, "behind an undo()", x.shape(0, 0, 1, 0, 1), 1);
    }

    private static void sheetOfAFullRoll() throws ReflectiveOperationException {
        of("Promise 8", "FULL. (Refused: the sheet stays.)");
        BoilerRoll x = withActs(2000);
        told(x, "no sheet", x.measure(0, 0, 100), STATE);
        told(x, "a sheet is no act", x.sheet(0, 1), 1);
        due("an entry", x.entry(0, 77) ? 1 : 0, 1);
        told(x, "no part", x.measure(0, 2, 100), NONE);
        told(x, "a wrong day", x.measure(0, 0, 101), RANGE);
        told(x, "measure", x.measure(0, 0, 100), FULL);
        told(x, "undo()", x.undo(), 11);
        told(x, "the sheet is filed", x.measure(0, 0, 100), 1);
        due("its entry", x.thick(0, 0, 0, 100, 100), 77);
        due("acts", x.count(2, 0), 2000);
    }

    private static void fourThousandPasses() throws ReflectiveOperationException {
        of("Promise 2", "FULL: 4000 pass()es");
        BoilerRoll x = new BoilerRoll();
        often(3998, inside(x, "roll"), "goTo", 7);
        told(x, "the 3999th", x.pass(7), 7);
        told(x, "the 4000th", x.pass(8), 8);
        told(x, "a wrong 4001st", x.pass(7), RANGE);
        told(x, "the 4001st", x.pass(8), FULL);
        told(x, "the 4001st of another day", x.pass(9), FULL);
        due("passes", x.count(3, 0), 4000);
        due("today", x.count(0, 0), 8);
        told(x, "an act", x.rule(0, 1, 1), 1);
        told(x, "a refused pass", x.pass(8), FULL);
        told(x, "the act can be undone", x.undo(), 11);
    }

    private static void fortyThousandOnTheTape() throws ReflectiveOperationException {
        of("Promise 34", "NONE, and none come, if there would be more than 40000");
        for (int there = 39990; there <= 40000; there++) {
            BoilerRoll x = new BoilerRoll();
            onTape(x, there, 0);
            due("five behind " + there, x.feed(1, 1, 1, 1, 1), there <= 39995 ? there + 5 : NONE);
            int now = there <= 39995 ? there + 5 : there;
            due("no more than " + now, x.end(now + 1) ? 1 : 0, 0);
            due("all of " + now, x.end(now) ? 1 : 0, 1);
        }
    }

    private static void fortyThousandOfTheImage() throws ReflectiveOperationException {
        of("Terms 8", "It has at most 40000 ints");
        BoilerRoll x = new BoilerRoll();
        onTape(x, 3999, 0, 0);
        onTape(x, 1, 1, 0, 1, 0, 0);
        onTape(x, 1, 2, 0, 0, 1, 1, 1, 1);
        onTape(x, 1998, 4, 0, 0, 0, 5, -1, -1, -1, -1, -1, -1, -1, -1, -1, -1, -1);
        due("restore", x.restore(), 2000);
        due("acts", x.count(2, 0), 2000);
        due("passes", x.count(3, 0), 3999);
        due("image", x.image(), 39978);
        due("the 4000th pass", x.pass(0), 0);
        due("image then", x.image(), 39980);
        due("its last code", x.imageAt(39978), 0);
        due("its last measure", x.imageAt(39978 - 12), 5);
        due("again", x.again(), 39980);
        due("its last int is there", x.end(39980) ? 1 : 0, 1);
        due("twenty more", x.feed(0, 0, 0, 0, 0) + x.feed(0, 0, 0, 0, 0) + x.feed(0, 0, 0, 0, 0), 3 * 39990);
        due("the twenty", x.feed(0, 0, 0, 0, 0), 40000);
        due("five more", x.feed(0, 0, 0, 0, 0), NONE);
        due("the 4001st pass is refused", x.restore(), -10 - 39980);
        due("the tape is empty", x.end(1) ? 1 : 0, 0);
        due("again of the same image", x.again(), 39980);
        due("restore of it", x.restore(), 2000);
        due("passes then", x.count(3, 0), 4000);
    }

    private static void fullByTheTape() throws ReflectiveOperationException {
        of("Promise 37", "or whose call would be refused", "2000 ACTS, 4000 pass()es");
        for (int acts : new int[] {1999, 2000, 2001}) {
            BoilerRoll x = new BoilerRoll();
            onTape(x, acts, 11, 0, 1, 1);
            due(acts + " acts", x.restore(), acts <= 2000 ? acts : -10 - 4 * 2000);
            due(acts + " acts stand", x.count(2, 0), acts <= 2000 ? acts : 0);
        }
        for (int passes : new int[] {3999, 4000, 4001}) {
            BoilerRoll x = new BoilerRoll();
            onTape(x, passes, 0, 3);
            due(passes + " passes", x.restore(), passes <= 4000 ? 0 : -10 - 2 * 4000);
            due(passes + " passes came", x.count(3, 0), passes <= 4000 ? passes : 0);
        }
        BoilerRoll x = new BoilerRoll();
        onTape(x, 2000, 11, 0, 1, 1);
        x.restore();
        told(x, "an act more", x.rule(0, 1, 1), FULL);
    }

    public static void main(String[] args) throws ReflectiveOperationException {
        try {
            inside(new BoilerRoll(), "roll");
            inside(new BoilerRoll(), "tape");
        } catch (NoSuchFieldException e) {
            System.out.println("the state is kept under other names: the limits were not asked");
            return;
        }
        twoThousandActs();
        shapeOfAFullRoll();
        sheetOfAFullRoll();
        fourThousandPasses();
        fortyThousandOnTheTape();
        fortyThousandOfTheImage();
        fullByTheTape();
        System.out.println(wrong == 0 ? "all answers are as due" : wrong + " answers are not as due");
        if (wrong != 0) {
            System.exit(1);
        }
    }
}
