/** Promises 32 to 37: the image, the tape, and going on from it. */
public final class ImageTest {
    private static final int NONE = BoilerRoll.NONE;
    private static final int FULL = BoilerRoll.FULL;

    private static int wrong = 0;

    private static void due(String told, long got, long want) {
        if (got != want) {
            wrong++;
            System.out.println(told + " answered " + got + ", due is " + want);
        }
    }

    private static void due(String told, boolean got, boolean want) {
        due(told, got ? 1 : 0, want ? 1 : 0);
    }

    private static final int[] ALL = {
        0, 10,
        1, 1, 2, 3, 9,
        2, 0, 2, 10, 11, 12, 13,
        3, 0, 0, 2, 4, 5,
        4, 0, 0, 10, 7, -1, -1, -1, -1, -1, -1, -1, -1, -1, -1, -1,
        5, 0, 0, 1, 2, 3, 10,
        6, 0, 0, 4, 10,
        7, 0, 0, 5, 9,
        8, 0, 6, 7, 10,
        9, 0, 0, 8, 10,
        10, 0, 5, 9, 1, 10,
        0, 11,
        11, 2, 3, 4,
        0, 11,
    };

    private static BoilerRoll all() {
        BoilerRoll x = new BoilerRoll();
        x.pass(10);
        x.vessel(1, 2, 3, 9);
        x.part(0, 2, 10, 11, 12, 13);
        x.shape(0, 0, 2, 4, 5);
        x.sheet(0, 1);
        x.entry(0, 7);
        x.measure(0, 0, 10);
        x.patch(0, 0, 1, 2, 3, 10);
        x.plate(0, 0, 4, 10);
        x.plug(0, 0, 5, 9);
        x.valve(0, 6, 7, 10);
        x.set(0, 0, 8, 10);
        x.paper(0, 5, 9, 1, 10);
        x.pass(11);
        x.rule(2, 3, 4);
        x.pass(11);
        return x;
    }

    private static void dueImage(String told, BoilerRoll x, int[] want) {
        due(told + ": image()", x.image(), want.length);
        for (int i = 0; i < want.length; i++) {
            due(told + ": imageAt(" + i + ")", x.imageAt(i), want[i]);
        }
        due(told + ": imageAt behind it", x.imageAt(want.length), 0);
    }

    /** Feeds a row of ints and cuts off what filled up the last five. */
    private static void feed(BoilerRoll x, int... row) {
        for (int i = 0; i < row.length; i += 5) {
            int[] five = new int[5];
            System.arraycopy(row, i, five, 0, Math.min(5, row.length - i));
            due("34: feed", x.feed(five[0], five[1], five[2], five[3], five[4]), i + 5);
        }
        due("35: end", x.end(row.length), true);
    }

    private static int[] joined(int[] a, int... b) {
        int[] row = java.util.Arrays.copyOf(a, a.length + b.length);
        System.arraycopy(b, 0, row, a.length, b.length);
        return row;
    }

    private static void image() {
        dueImage("32: a new one", new BoilerRoll(), new int[0]);
        BoilerRoll x = all();
        dueImage("32: of each code one", x, ALL);
        due("33: imageAt(-1)", x.imageAt(-1), 0);
        due("33: imageAt, the greatest", x.imageAt(Integer.MAX_VALUE), 0);
        due("33: imageAt, the least", x.imageAt(Integer.MIN_VALUE), 0);
        x.vessel(-1, 1, 1, 1);
        x.pass(3);
        dueImage("32: refused calls leave it", x, ALL);
        x.rule(0, 5, 6);
        dueImage("32: an act more", x, joined(ALL, 11, 0, 5, 6));
        x.undo();
        dueImage("32: passes that nothing stands behind stay", x, ALL);
        BoilerRoll y = new BoilerRoll();
        y.vessel(5, 6, 7, 0);
        dueImage("32: without a pass", y, new int[] {1, 5, 6, 7, 0});
    }

    private static void tape() {
        BoilerRoll x = new BoilerRoll();
        due("35: end(0)", x.end(0), true);
        due("35: end(1)", x.end(1), false);
        due("35: end(-1)", x.end(-1), false);
        due("34: five", x.feed(0, 1, 0, 2, 0), 5);
        due("34: ten", x.feed(3, 0, 4, 0, 5), 10);
        due("35: end(11)", x.end(11), false);
        due("35: end(10)", x.end(10), true);
        due("35: end(-1) of ten", x.end(-1), false);
        due("35: end(4)", x.end(4), true);
        due("35: end(5)", x.end(5), false);
        due("34: behind four", x.feed(0, 9, 0, 9, 1), 9);
        due("35: end(8)", x.end(8), true);
        due("37: passes alone", x.restore(), 0);
        due("37: their number", x.count(3, 0), 4);
        due("37: today", x.count(0, 0), 9);
        due("35: the tape is empty", x.end(1), false);
        due("36: the image in place of it", x.again(), 8);
        due("36: it is no longer", x.end(9), false);
        due("36: nor shorter", x.end(8), true);
    }

    private static void again() {
        BoilerRoll x = all();
        due("36: again()", x.again(), ALL.length);
        dueImage("36: the image stays", x, ALL);
        x.vessel(1, 1, 1, 11);
        due("37: as it was at again()", x.restore(), 11);
        dueImage("37: the same image", x, ALL);
        due("37: vessels", x.count(1, 0), 1);
        due("37: nothing to be undone", x.undo(), NONE);
        due("37: again() of what is restored", x.again(), ALL.length);
        due("34: more behind it", x.feed(11, 0, 5, 6, 0), ALL.length + 5);
        due("35: cut", x.end(ALL.length + 4), true);
        due("37: gone on from it", x.restore(), 12);
        dueImage("37: an act more", x, joined(ALL, 11, 0, 5, 6));
        due("37: it is not undone", x.undo(), NONE);
        x.rule(0, 1, 1);
        due("37: what comes then is", x.undo(), 11);
        BoilerRoll y = new BoilerRoll();
        feed(y, ALL);
        due("37: a fed tape", y.restore(), 11);
        dueImage("37: its image", y, ALL);
        due("37: entered on its day", y.due(0, 2, 10, 10), 374);
        due("37: and known on it", y.due(0, 2, 10, 11), 12);
        due("37: the measure", y.count(2, 0), 11);
        due("37: owner", y.holds(0, 5, 11, 11), 9);
    }

    private static void whatRestoreClears() {
        BoilerRoll x = all();
        x.list(0, 50000);
        x.sheet(0, 1);
        x.pass(3);
        feed(x, 12);
        due("37: refused", x.restore(), -10);
        due("37: refused, the sheet stays", x.entry(0, 1), true);
        due("37: refused, what is listed stays", x.listed(0, 0), 0);
        due("37: refused, status() stays", x.status(), BoilerRoll.RANGE);
        dueImage("37: refused, the roll stays", x, ALL);
        due("35: refused, the tape is empty", x.end(1), false);
        x.rule(0, 1, 1);
        feed(x, 12);
        x.restore();
        due("37: refused, undo() goes on", x.undo(), 11);
        x.pass(3);
        due("37: an empty tape", x.restore(), 0);
        due("37: no sheet", x.entry(0, 1), false);
        due("37: nothing listed", x.listed(0, 0), NONE);
        due("37: status()", x.status(), 0);
        due("37: no vessels", x.count(1, 0), 0);
        due("37: today", x.count(0, 0), 0);
        due("37: no passes", x.count(3, 0), 0);
        due("37: no rules", x.count(4, 0), 0);
        x.vessel(0, 1, 0, 0);
        due("37: no part of what was", x.count(5, 0), 0);
        due("37: a sheet is asked for", x.measure(0, 0, 0), NONE);
    }

    private static void refuse(String told, int place, int... row) {
        BoilerRoll x = new BoilerRoll();
        feed(x, row);
        due("37: " + told, x.restore(), -10 - place);
        due("37: " + told + ", acts", x.count(2, 0), 0);
        due("37: " + told + ", today", x.count(0, 0), 0);
    }

    private static void refusals() {
        int[] tubes = {0, 5, 1, 0, 1, 0, 5, 2, 0, 2, 1, 1, 10, 1};
        int n = tubes.length;
        refuse("code -1", 0, -1);
        refuse("code 12", 0, 12, 0, 0, 0, 0);
        refuse("the greatest code", 2, 0, 1, Integer.MAX_VALUE);
        refuse("a code at the end", n, joined(tubes, 0));
        refuse("a number short", n, joined(tubes, 2, 0, 2, 1, 1, 10));
        refuse("a measure a number short", n, joined(tubes, 4, 0, 0, 5, 1, -1, -1, -1, -1, -1, -1, -1, -1, -1, -1));
        refuse("pass() back", n, joined(tubes, 0, 4));
        refuse("no vessel", 0, 2, 0, 2, 1, 1, 10, 1);
        refuse("a vessel of a day to come", 0, 1, 0, 1, 0, 5, 0, 5);
        refuse("a part out of range", n, joined(tubes, 2, 0, 5, 1, 1, 10, 1));
        refuse("a shape of no part", n, joined(tubes, 3, 0, 1, 1, 0, 1));
        refuse("a shape behind a plug", n + 5, joined(tubes, 7, 0, 0, 0, 5, 3, 0, 0, 1, 0, 1));
        refuse("a measure of -2", n, joined(tubes, 4, 0, 0, 5, -2, -1, -1, -1, -1, -1, -1, -1, -1, -1, -1, -1));
        refuse("a measure of 10001", n, joined(tubes, 4, 0, 0, 5, 10001, -1, -1, -1, -1, -1, -1, -1, -1, -1, -1, -1));
        refuse("a measure of no spot", n, joined(tubes, 4, 0, 0, 5, 1, -1, -1, -1, -1, -1, -1, -1, -1, -1, -1, 0));
        refuse("a measure of no spot, -2", n, joined(tubes, 4, 0, 0, 5, 1, -2, -1, -1, -1, -1, -1, -1, -1, -1, -1, -1));
        refuse("a measure of the first that is no spot", n, joined(tubes, 4, 0, 0, 5, 1, 0, -1, -1, -1, -1, -1, -1, -1, -1, -1, -1));
        refuse("a measure of nothing of no part", n, joined(tubes, 4, 0, 1, 5, -1, -1, -1, -1, -1, -1, -1, -1, -1, -1, -1, -1));
        refuse("a measure of nothing of no vessel", n, joined(tubes, 4, 1, 0, 5, -1, -1, -1, -1, -1, -1, -1, -1, -1, -1, -1, -1));
        refuse("a measure of a day to come", n, joined(tubes, 4, 0, 0, 6, 1, -1, -1, -1, -1, -1, -1, -1, -1, -1, -1, -1));
        refuse("a measure of no part", n, joined(tubes, 4, 0, 1, 5, 1, -1, -1, -1, -1, -1, -1, -1, -1, -1, -1, -1));
        refuse("a patch", n, joined(tubes, 5, 0, 0, 1, 1, 1001, 5));
        refuse("a plate", n, joined(tubes, 6, 0, 0, 0, 5));
        refuse("a plug", n, joined(tubes, 7, 0, 0, 2, 5));
        refuse("a valve", n, joined(tubes, 8, 0, 0, 1, 5));
        refuse("a set", n, joined(tubes, 9, 0, 0, 1, 5));
        refuse("a paper", n, joined(tubes, 10, 0, 6, 0, 0, 5));
        refuse("a rule", n, joined(tubes, 11, 3, 1, 1));
        int[] seven = tubes;
        for (int i = 0; i < 7; i++) {
            seven = joined(seven, 8, 0, 1, 1, 5);
        }
        refuse("a seventh valve", n + 30, seven);
        BoilerRoll x = new BoilerRoll();
        feed(x, joined(tubes, 4, 0, 0, 5, -1, -1, -1, -1, -1, -1, -1, -1, -1, -1, -1, -1));
        due("37: a measure of nothing", x.restore(), 3);
        feed(x, joined(tubes, 4, 0, 0, 5, 10000, -1, -1, -1, -1, -1, -1, -1, -1, -1, -1, -1));
        due("37: a measure of 10000", x.restore(), 3);
        due("37: it holds", x.thick(0, 0, 0, 5, 5), 10000);
        feed(x, joined(tubes, 3, 0, 0, 1, 0, 7, 7, 0, 0, 0, 5));
        due("37: a plug of 0", x.restore(), 4);
        due("37: tubes", x.holds(0, 3, 5, 5), 7);
    }

    private static void eightTimes() {
        BoilerRoll x = all();
        for (int i = 0; i < 8; i++) {
            x.feed(12, 0, 0, 0, 0);
            due("37: time " + i, x.restore(), -10);
        }
        x.feed(0, 20, 0, 20, 0);
        x.end(4);
        due("37: a ninth time", x.restore(), FULL);
        due("37: the tape is empty, too", x.end(1), false);
        dueImage("37: the roll stays", x, ALL);
        x = all();
        feed(x, 0, 20);
        due("37: a pass alone", x.restore(), 0);
        due("37: what the roll had is not in the next one", x.count(4, 0), 0);
        feed(x, 1, 0, 1, 0, 0, 11, 0, 1, 1);
        due("37: two acts", x.restore(), 2);
        due("37: no passes of rolls before", x.count(3, 0), 0);
        due("37: one rule", x.count(4, 0), 1);
        due("37: known on day 0", x.due(0, 0, 0, 0), 1);
        BoilerRoll y = new BoilerRoll();
        for (int i = 0; i < 8; i++) {
            due("37: empty, time " + i, y.restore(), 0);
        }
        due("37: also of a roll that was restored", y.restore(), FULL);
        due("37: another roll has its own eight", new BoilerRoll().restore(), 0);
    }

    public static void main(String[] args) {
        image();
        tape();
        again();
        whatRestoreClears();
        refusals();
        eightTimes();
        System.out.println(wrong == 0 ? "all answers are as due" : wrong + " answers are not as due");
        if (wrong != 0) {
            System.exit(1);
        }
    }
}
