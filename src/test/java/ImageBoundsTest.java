import java.util.Arrays;

/**
 * Each sentence of promises 32 to 37 and of terms 8 that names a boundary: a test of its own, at the
 * boundary, one step inside and one step outside. It names the promise and tells the sentence, with [..]
 * for what is left out. Each roll is used for 512 calls at most; what lies behind that many is asked by
 * LimitsTest.
 */
public final class ImageBoundsTest {
    private static final int NONE = BoilerRoll.NONE;
    private static final int RANGE = BoilerRoll.RANGE;
    private static final int STATE = BoilerRoll.STATE;
    private static final int FULL = BoilerRoll.FULL;
    private static final int LEAST = Integer.MIN_VALUE;
    private static final int MOST = Integer.MAX_VALUE;

    /** Today is 100; vessel 0 of day 50: a shell, ten tubes, a valve of day 60. Five acts. */
    private static final int[] BEGUN = {
        0, 100,
        1, 3, 4, 500, 50,
        2, 0, 0, 4000, 10, 100, 1000,
        2, 0, 2, 4000, 10, 100, 1000,
        3, 0, 1, 1, 0, 10,
        8, 0, 300, 400, 60,
    };
    private static final int ACTS_BEGUN = 5;

    /** Of each code an act (or a pass) that may come behind BEGUN. */
    private static final int[][] ROWS = {
        {0, 100},
        {1, 1, 1, 1, 60},
        {2, 0, 1, 2, 3, 4, 5},
        {3, 0, 1, 1, 0, 1},
        {4, 0, 0, 70, 80, -1, -1, -1, -1, -1, -1, -1, -1, -1, -1, -1},
        {5, 0, 0, 1, 2, 3, 70},
        {6, 0, 0, 90, 70},
        {7, 0, 1, 3, 70},
        {8, 0, 5, 6, 70},
        {9, 0, 0, 5, 70},
        {10, 0, 5, 6, 7, 70},
        {11, 1, 2, 3},
    };

    /** Of each number of those rows the least and the most that are not refused. */
    private static final int[][] EDGES = {
        {100, 40000},
        {0, 999, 1, 20, 0, 100000, 0, 100},
        {0, 0, 0, 4, 1, 100000, 1, 100000, 1, 10000, 1, 1000},
        {0, 0, 0, 1, 1, 12, 0, 1000, 1, 500},
        {0, 0, 0, 1, 50, 100, -1, 10000, -1, -1, -1, -1, -1, -1, -1, -1, -1, -1, -1, -1, -1, -1, -1, -1, -1, -1, -1, -1, -1, -1},
        {0, 0, 0, 1, 1, 100000, 1, 10000, 1, 1000, 50, 100},
        {0, 0, 0, 1, 1, 10000, 50, 100},
        {0, 0, 1, 1, 0, 10, 50, 100},
        {0, 0, 1, 10000, 1, 100000, 50, 100},
        {0, 0, 0, 0, 1, 10000, 60, 100},
        {0, 0, 0, 5, 0, 999, 0, 9999, 50, 100},
        {0, 2, 1, 4000, 1, 4000},
    };

    private static int wrong = 0;
    private static String sentence = "";

    /** Names the sentence that the calls behind this are about. */
    private static void of(String where, String words) {
        sentence = where + ", \"" + words + "\": ";
    }

    /** The same, with the one case of it that they are about. */
    private static void of(String where, String words, String which) {
        sentence = where + ", \"" + words + "\" (" + which + "): ";
    }

    private static void due(String told, long got, long want) {
        if (got != want) {
            wrong++;
            System.out.println(sentence + told + " answered " + got + ", due is " + want);
        }
    }

    private static void due(String told, boolean got, boolean want) {
        due(told, got ? 1 : 0, want ? 1 : 0);
    }

    private static int[] joined(int[] a, int... b) {
        int[] row = Arrays.copyOf(a, a.length + b.length);
        System.arraycopy(b, 0, row, a.length, b.length);
        return row;
    }

    /** Feeds a row of ints to an empty tape and cuts off what filled up the last five. */
    private static void feed(BoilerRoll x, int... row) {
        for (int i = 0; i < row.length; i += 5) {
            int[] five = Arrays.copyOfRange(row, i, i + 5);
            due("feed", x.feed(five[0], five[1], five[2], five[3], five[4]), i + 5);
        }
        due("end", x.end(row.length), true);
    }

    private static int restored(int... row) {
        BoilerRoll x = new BoilerRoll();
        feed(x, row);
        return x.restore();
    }

    private static void dueImage(String told, BoilerRoll x, int... want) {
        due(told + ", image()", x.image(), want.length);
        for (int i = 0; i < want.length; i++) {
            due(told + ", imageAt(" + i + ")", x.imageAt(i), want[i]);
        }
    }

    private static BoilerRoll begun() {
        BoilerRoll x = new BoilerRoll();
        x.pass(100);
        x.vessel(3, 4, 500, 50);
        x.part(0, 0, 4000, 10, 100, 1000);
        x.part(0, 2, 4000, 10, 100, 1000);
        x.shape(0, 1, 1, 0, 10);
        x.valve(0, 300, 400, 60);
        return x;
    }

    // ---- terms 8, promises 32 and 33

    private static void emptyImage() {
        of("Promise 32", "THE IMAGE: how many ints it has", "none");
        dueImage("a new roll", new BoilerRoll());
        BoilerRoll x = new BoilerRoll();
        x.pass(-1);
        x.vessel(0, 0, 0, 0);
        x.undo();
        dueImage("refused calls alone", x);
        x.pass(0);
        dueImage("a pass alone", x, 0, 0);
    }

    private static void imageOfEachCode() {
        of("Terms 8", "the ACTS that stand, as they were entered, and pass()es, as they came, each a code and its numbers");
        BoilerRoll x = begun();
        dueImage("codes 0, 1, 2, 3, 8", x, BEGUN);
        x.sheet(0, 1);
        x.entry(0, 80);
        x.measure(0, 0, 70);
        x.patch(0, 0, 1, 2, 3, 70);
        x.plate(0, 0, 90, 70);
        x.plug(0, 1, 3, 70);
        x.set(0, 0, 5, 70);
        x.paper(0, 5, 6, 7, 70);
        x.rule(1, 2, 3);
        int[] want = BEGUN;
        for (int code : new int[] {4, 5, 6, 7, 9, 10, 11}) {
            want = joined(want, ROWS[code]);
        }
        dueImage("codes 4, 5, 6, 7, 9, 10, 11", x, want);
        for (int code : new int[] {11, 10, 9, 7, 6, 5, 4}) {
            x.undo();
            want = Arrays.copyOf(want, want.length - ROWS[code].length);
            due("behind undo() of code " + code, x.image(), want.length);
        }
        dueImage("behind all these undo()s", x, BEGUN);
    }

    private static void twelveOfAMeasure() {
        of("Terms 8", "then twelve, of each spot its tenths, -1 where it was not measured, or is no spot");
        for (int spots : new int[] {1, 2, 11, 12}) {
            for (int entries : new int[] {0, 1, spots - 1, spots, spots + 1, 12, 13, 40}) {
                BoilerRoll x = begun();
                x.shape(0, 0, spots, 0, 1);
                x.sheet(0, entries);
                for (int i = 0; i < entries; i++) {
                    x.entry(i, i);
                }
                String told = entries + " entries of " + spots + " spots";
                due(told, x.measure(0, 0, 70), Math.min(entries, spots));
                int at = x.image() - 16;
                due(told + ", its code", x.imageAt(at), 4);
                due(told + ", its day", x.imageAt(at + 3), 70);
                for (int s = 0; s < 12; s++) {
                    due(told + ", spot " + s, x.imageAt(at + 4 + s), s < Math.min(entries, spots) ? s : -1);
                }
            }
        }
        BoilerRoll x = begun();
        x.shape(0, 0, 3, 0, 1);
        x.sheet(1, 3);
        x.entry(0, -1);
        x.entry(1, Float.floatToRawIntBits(7.77f));
        x.measure(0, 0, 70);
        int at = x.image() - 12;
        due("a float that is no number", x.imageAt(at), -1);
        due("a float, cut", x.imageAt(at + 1), 77);
        due("a float of 0", x.imageAt(at + 2), 0);
        due("no spot", x.imageAt(at + 3), -1);
    }

    private static void passesStay() {
        of("Terms 8", "(pass()es that nothing stands behind stay.)");
        BoilerRoll x = new BoilerRoll();
        x.pass(1);
        x.pass(1);
        x.rule(0, 1, 2);
        x.undo();
        dueImage("behind an undo()", x, 0, 1, 0, 1);
        x.undo();
        dueImage("behind a refused undo()", x, 0, 1, 0, 1);
        x.rule(0, 3, 4);
        x.pass(2);
        x.undo();
        dueImage("a pass at the end", x, 0, 1, 0, 1, 11, 0, 3, 4, 0, 2);
    }

    private static void intsOfTheImage() {
        of("Promise 33", "Int i of it; 0 if there is none");
        BoilerRoll x = begun();
        int n = BEGUN.length;
        for (int i : new int[] {LEAST, -1, 0, 1, n - 2, n - 1, n, n + 1, 39999, 40000, MOST}) {
            due("int " + i, x.imageAt(i), i >= 0 && i < n ? BEGUN[i] : 0);
        }
        x.undo();
        due("one that went", x.imageAt(n - 1), 0);
        due("the last that stands", x.imageAt(n - 6), 10);
        due("the first that went", x.imageAt(n - 5), 0);
        due("of a new roll", new BoilerRoll().imageAt(0), 0);
    }

    // ---- promises 34 to 36

    private static void fiveInts() {
        of("Promise 34", "Five ints come behind those on THE TAPE: how many it has");
        BoilerRoll x = new BoilerRoll();
        due("the first five", x.feed(11, 0, 1, 2, 11), 5);
        due("the next five", x.feed(1, 3, 4, 11, 2), 10);
        due("two more and three too many", x.feed(5, 6, 7, 7, 7), 15);
        due("cut", x.end(12), true);
        due("three rules", x.restore(), 3);
        dueImage("as they came", x, 11, 0, 1, 2, 11, 1, 3, 4, 11, 2, 5, 6);
        due("five behind nothing", x.feed(LEAST, MOST, 0, -1, 1), 5);
        due("cut to three", x.end(3), true);
        due("five behind three", x.feed(0, 0, 0, 0, 0), 8);
    }

    private static void firstInts() {
        of("Promise 35", "THE TAPE has its first n ints alone: true; false if it has not so many, or n is below 0");
        BoilerRoll x = new BoilerRoll();
        for (int n : new int[] {LEAST, -1, 0, 1, MOST}) {
            due("end(" + n + ") of none", x.end(n), n == 0);
        }
        x.feed(0, 7, 0, 8, 0);
        for (int n : new int[] {LEAST, -1, 6, 7, 40000, MOST, 5, 4}) {
            due("end(" + n + ") of five", x.end(n), n == 5 || n == 4);
        }
        due("end(5) of four", x.end(5), false);
        due("end(4) of four", x.end(4), true);
        due("a refused one cuts nothing: two passes", x.restore(), 0);
        due("today", x.count(0, 0), 8);
        x.feed(0, 7, 0, 8, 0);
        x.end(2);
        x.restore();
        due("of its first two the one pass", x.count(0, 0), 7);
        x.feed(0, 7, 0, 8, 0);
        due("end(0) of five", x.end(0), true);
        due("end(1) of none", x.end(1), false);
    }

    private static void tapeOfTheImage() {
        of("Promise 36", "THE TAPE becomes the IMAGE: how many ints");
        BoilerRoll x = new BoilerRoll();
        due("of an empty image", x.again(), 0);
        x.feed(1, 1, 1, 1, 1);
        due("an empty image in place of five", x.again(), 0);
        due("of these none is there", x.end(1), false);
        x = begun();
        feed(x, 12, 12, 12, 12, 12, 12, 12);
        due("in place of seven", x.again(), BEGUN.length);
        due("no more", x.end(BEGUN.length + 1), false);
        due("no less", x.end(BEGUN.length), true);
        for (int i = 0; i < 10; i++) {
            x.feed(12, 12, 12, 12, 12);
        }
        due("in place of a longer one", x.again(), BEGUN.length);
        due("no longer", x.end(BEGUN.length + 1), false);
        x.rule(0, 1, 1);
        x.undo();
        x.undo();
        due("as it was then", x.restore(), ACTS_BEGUN);
        dueImage("its ints", x, BEGUN);
    }

    // ---- promise 37

    private static void emptyTape() {
        of("Promise 37", "how many ACTS stand then", "none");
        BoilerRoll x = begun();
        due("an empty one", x.restore(), 0);
        dueImage("then", x);
        int[] want = {0, 0, 0, 0, 0, NONE, NONE, NONE};
        for (int what = 0; what < 8; what++) {
            due("count(" + what + ")", x.count(what, 0), want[what]);
        }
        due("why of vessel 0", x.why(0, 100, 100), NONE);
        due("a vessel's number", x.vessel(1, 1, 1, 0), 0);
        due("parts of it", x.count(5, 0), 0);
        due("it is known on day 0", x.why(0, 0, 0), 7);
    }

    private static void tapeIsEmptyThen() {
        of("Promise 37", "THE TAPE, which is empty then");
        BoilerRoll x = begun();
        x.again();
        due("accepted", x.restore(), ACTS_BEGUN);
        due("then", x.end(1), false);
        feed(x, 12, 1);
        due("refused", x.restore(), -10);
        due("then", x.end(1), false);
        due("the next five are the first", x.feed(0, 0, 0, 0, 0), 5);
    }

    private static void howManyActs() {
        of("Promise 37", "how many ACTS stand then");
        due("a pass is none", restored(0, 1), 0);
        due("one", restored(11, 0, 1, 1), 1);
        due("one between passes", restored(0, 1, 11, 0, 1, 1, 0, 1), 1);
        due("two", restored(0, 1, 11, 0, 1, 1, 0, 1, 1, 0, 1, 0, 0), 2);
        for (int code = 0; code < ROWS.length; code++) {
            due("one more of code " + code, restored(joined(BEGUN, ROWS[code])), ACTS_BEGUN + (code == 0 ? 0 : 1));
        }
    }

    private static void codes() {
        of("Promise 37", "-10 less the place of the first code that is none");
        for (int code : new int[] {LEAST, -1, 12, 13, MOST}) {
            due("code " + code + " at place 0", restored(code, 0, 0, 0, 0, 0, 0), -10);
            due("code " + code + " at place 2", restored(0, 0, code, 0, 0, 0, 0, 0, 0), -12);
            due("code " + code + " behind " + BEGUN.length, restored(joined(BEGUN, code)), -10 - BEGUN.length);
        }
        due("the first of two", restored(0, 0, 12, -1), -12);
        due("the number of a pass is no code", restored(0, 12), 0);
    }

    private static void numbersNotAllThere() {
        of("Promise 37", "whose numbers are not all there");
        for (int code = 0; code < ROWS.length; code++) {
            int[] row = joined(BEGUN, ROWS[code]);
            due("code " + code + ", all", restored(row), ACTS_BEGUN + (code == 0 ? 0 : 1));
            due("code " + code + ", one short", restored(Arrays.copyOf(row, row.length - 1)), -10 - BEGUN.length);
            due("code " + code + ", none", restored(joined(BEGUN, code)), -10 - BEGUN.length);
            due("code " + code + ", one too many", restored(joined(row, 0)), -10 - row.length);
        }
    }

    /** One number of a row is changed, behind BEGUN. */
    private static void number(int code, int at, int n, boolean accepted) {
        int[] row = ROWS[code].clone();
        row[at] = n;
        int acts = ACTS_BEGUN + (code == 0 ? 0 : 1);
        due("code " + code + ", number " + at + " of " + n, restored(joined(BEGUN, row)), accepted ? acts : -10 - BEGUN.length);
    }

    private static void callsRefused() {
        of("Promise 37", "or whose call would be refused", "NONE, RANGE");
        for (int code = 0; code < ROWS.length; code++) {
            for (int at = 1; at < ROWS[code].length; at++) {
                int least = EDGES[code][2 * at - 2];
                int most = EDGES[code][2 * at - 1];
                number(code, at, least, true);
                number(code, at, most, true);
                number(code, at, Math.min(least + 1, most), true);
                number(code, at, Math.max(most - 1, least), true);
                number(code, at, least - 1, false);
                number(code, at, most + 1, false);
                number(code, at, LEAST, false);
                number(code, at, MOST, false);
            }
        }
    }

    private static void manyOfAShell() {
        of("Promise 37", "or whose call would be refused", "MANY of a shell, a plug of a shell");
        due("many 1 of a shell", restored(joined(BEGUN, 3, 0, 0, 1, 0, 1)), ACTS_BEGUN + 1);
        due("many 2 of a shell", restored(joined(BEGUN, 3, 0, 0, 1, 0, 2)), -10 - BEGUN.length);
        due("a plug of a shell", restored(joined(BEGUN, 7, 0, 0, 0, 70)), -10 - BEGUN.length);
        due("the vessel is not there yet", restored(joined(new int[] {0, 100, 10, 0, 0, 0, 0, 70}, BEGUN)), -12);
    }

    private static void measuresRefused() {
        of("Promise 37", "(of measure: also one that tells -1 less, or more than 10000, or not -1 where there is no spot)");
        int[] begun = joined(BEGUN, 3, 0, 0, 12, 0, 1);
        int[] refused = {LEAST, -2, 10001, 10002, MOST};
        int[] accepted = {-1, 0, 1, 9999, 10000};
        for (int spots : new int[] {1, 6, 11, 12}) {
            begun[begun.length - 3] = spots;
            for (int s : new int[] {0, spots - 1, spots, 11}) {
                if (s > 11) {
                    continue;
                }
                int[] row = joined(begun, 4, 0, 0, 70, -1, -1, -1, -1, -1, -1, -1, -1, -1, -1, -1, -1);
                for (int n : accepted) {
                    row[begun.length + 4 + s] = n;
                    int want = s < spots || n == -1 ? ACTS_BEGUN + 2 : -10 - begun.length;
                    due("spot " + s + " of " + spots + ": " + n, restored(row), want);
                }
                for (int n : refused) {
                    row[begun.length + 4 + s] = n;
                    due("spot " + s + " of " + spots + ": " + n, restored(row), -10 - begun.length);
                }
            }
        }
    }

    private static void shapesRefused() {
        of("Promise 37", "or whose call would be refused", "STATE");
        int[] shape = {3, 0, 1, 2, 0, 10};
        int[] measure = ROWS[4].clone();
        measure[2] = 1;
        int[][] acts = {measure, {5, 0, 1, 1, 1, 1, 70}, {6, 0, 1, 1, 70}, {7, 0, 1, 0, 70}};
        for (int[] act : acts) {
            int[] row = joined(BEGUN, act);
            due("a shape behind code " + act[0], restored(joined(row, shape)), -10 - row.length);
            due("a shape ahead of code " + act[0], restored(joined(joined(BEGUN, shape), act)), ACTS_BEGUN + 2);
            shape[2] = 0;
            shape[5] = 1;
            due("a shape of another part behind code " + act[0], restored(joined(row, shape)), ACTS_BEGUN + 2);
            shape[2] = 1;
            shape[5] = 10;
        }
    }

    private static void tooMany() {
        of("Promise 37", "or whose call would be refused", "FULL");
        int[][] asked = {{1, 30}, {2, 24}, {8, 6}};
        for (int[] one : asked) {
            int[] row = {0, 100, 1, 0, 1, 0, 50};
            int acts = 1;
            int there = one[0] == 1 ? 1 : 0;
            int place = row.length;
            while (there <= one[1]) {
                due(there + " of code " + one[0], restored(row), acts);
                place = row.length;
                row = joined(row, ROWS[one[0]]);
                acts++;
                there++;
            }
            due(there + " of code " + one[0], restored(row), -10 - place);
        }
    }

    private static void enteredAsByCalls() {
        of("Promise 37", "each ACT is entered, each pass() comes, as by calls on a new roll");
        BoilerRoll x = new BoilerRoll();
        x.pass(500);
        feed(x, 1, 9, 1, 0, 0, 0, 10, 8, 0, 5, 6, 10, 0, 20, 8, 0, 7, 6, 10);
        due("ahead of any pass it is day 0", x.restore(), 3);
        due("today", x.count(0, 0), 20);
        due("passes", x.count(3, 0), 2);
        int[][] asked = {{0, NONE}, {9, NONE}, {10, 5}, {11, 5}, {19, 5}, {20, 7}};
        for (int[] one : asked) {
            due("as known on " + one[0], x.holds(0, 0, 20, one[0]), one[1]);
        }
        due("a vessel of day 1, ahead of any pass", restored(1, 9, 1, 0, 1), -10);
        due("a vessel of day 0, ahead of any pass", restored(1, 9, 1, 0, 0), 1);
        due("what comes next comes behind it", x.pass(19), RANGE);
        due("on its day", x.pass(20), 20);
        due("a valve's number", x.valve(0, 1, 1, 20), 2);
        due("it may be taken back", x.undo(), 8);
    }

    private static void asOnANewRoll() {
        of("Promise 37", "as by calls on a new roll", "behind rolls that were restored, and one that was refused");
        BoilerRoll x = begun();
        x.rule(0, 5, 5);
        x.pass(300);
        x.paper(0, 0, 0, 0, 300);
        feed(x, joined(joined(BEGUN, ROWS[11]), 12));
        due("refused", x.restore(), -10 - BEGUN.length - 4);
        for (int time = 0; time < 3; time++) {
            String told = "time " + time;
            feed(x, 0, 30, 1, 7, 1, 0, 20, 11, 0, 6, 6, 0, 40, 2, 0, 2, 10, 10, 50, 1000, 8, 0, 5, 5, 30);
            due(told, x.restore(), 4);
            int[] want = {40, 1, 4, 2, 1, 1, 1, 0};
            for (int what = 0; what < 8; what++) {
                due(told + ", count(" + what + ")", x.count(what, 0), want[what]);
            }
            int[][] asked = {{29, NONE, NONE, NONE}, {30, 26, NONE, NONE}, {39, 26, NONE, NONE}, {40, 26, 50, 5}};
            for (int[] one : asked) {
                due(told + ", a rule as known on " + one[0], x.due(0, 0, 40, one[0]), one[1]);
                due(told + ", a part as known on " + one[0], x.bears(0, 0, 40, one[0]), one[2]);
                due(told + ", a valve as known on " + one[0], x.holds(0, 0, 40, one[0]), one[3]);
            }
            due(told + ", no other rule", x.due(0, 1, 40, 40), 385);
            due(told + ", a pass on its day", x.pass(40), 40);
            feed(x, joined(joined(BEGUN, ROWS[1]), 12));
            due(told + ", refused", x.restore(), -10 - BEGUN.length - 5);
            due(told + ", it stays: vessels", x.count(1, 0), 1);
            due(told + ", it stays: today", x.count(0, 0), 40);
            dueImage(told, x, 0, 30, 1, 7, 1, 0, 20, 11, 0, 6, 6, 0, 40, 2, 0, 2, 10, 10, 50, 1000, 8, 0, 5, 5, 30, 0, 40);
        }
    }

    private static void nothingToBeUndone() {
        of("Promise 37", "the roll is that (no sheet, nothing LISTED, nothing to be undone, status() 0)");
        for (int[] row : new int[][] {{}, {0, 100}, BEGUN, joined(BEGUN, 0, 100), joined(new int[] {11, 0, 1, 1}, BEGUN)}) {
            BoilerRoll x = begun();
            x.list(LEAST, MOST);
            x.sheet(0, 1);
            x.pass(99);
            feed(x, row);
            due("whether it is accepted", x.restore() >= 0, true);
            due("status()", x.status(), 0);
            due("an entry of the sheet", x.entry(0, 1), false);
            if (row.length >= BEGUN.length) {
                due("a measure", x.measure(0, 0, 70), STATE);
            }
            due("listed", x.listed(0, 0), NONE);
            dueImage("its ints", x, row);
            due("undo()", x.undo(), NONE);
            dueImage("its ints then", x, row);
            x.rule(0, 1, 1);
            due("undo() of what comes then", x.undo(), 11);
            due("undo() of no more", x.undo(), NONE);
        }
    }

    private static void staysAsItWas() {
        of("Promise 37", "the roll stays as it was");
        BoilerRoll x = begun();
        x.list(LEAST, MOST);
        x.sheet(0, 1);
        x.entry(0, 80);
        x.pass(99);
        feed(x, joined(BEGUN, 0, 200, 1, 5, 5, 5, 200, 11, 0, 1, 0));
        due("refused at its last act", x.restore(), -10 - BEGUN.length - 7);
        due("status()", x.status(), RANGE);
        dueImage("its ints", x, BEGUN);
        int[] want = {100, 1, ACTS_BEGUN, 1, 0, 2, 1, 0};
        for (int what = 0; what < 8; what++) {
            due("count(" + what + ")", x.count(what, 0), want[what]);
        }
        due("listed", x.listed(0, 2), 415);
        due("no vessel more", x.why(1, 200, 200), NONE);
        due("the sheet", x.measure(0, 0, 70), 1);
        due("its entry", x.thick(0, 0, 0, 70, 100), 80);
        for (int code : new int[] {4, 8, 3, 2, 2, 1}) {
            due("what is undone", x.undo(), code);
        }
        due("no more", x.undo(), NONE);
    }

    private static void eightTimes() {
        of("Promise 37", "FULL: restore() was called eight times ahead of this in the life of this roll, whatever it answered");
        for (int refused = 0; refused <= 8; refused++) {
            BoilerRoll x = new BoilerRoll();
            for (int i = 0; i < 8; i++) {
                if (i < refused) {
                    feed(x, 12);
                } else {
                    feed(x, BEGUN);
                }
                due(refused + " refused, time " + (i + 1), x.restore(), i < refused ? -10 : ACTS_BEGUN);
            }
            feed(x, 0, 7);
            due(refused + " refused, the ninth time", x.restore(), FULL);
            due(refused + " refused, the tenth time", x.restore(), FULL);
            dueImage(refused + " refused, the roll stays", x, refused < 8 ? BEGUN : new int[0]);
        }
        BoilerRoll x = new BoilerRoll();
        for (int i = 1; i <= 8; i++) {
            due("of an empty tape, time " + i, x.restore(), 0);
        }
        due("of an empty tape, the ninth time", x.restore(), FULL);
        due("of another roll", new BoilerRoll().restore(), 0);
    }

    private static void fullStaysAsItWas() {
        of("Promise 37", "FULL: restore() was called eight times ahead of this [..] (THE TAPE is empty then, too)");
        BoilerRoll x = begun();
        for (int i = 0; i < 8; i++) {
            feed(x, 12);
            x.restore();
        }
        x.list(LEAST, MOST);
        x.sheet(0, 1);
        x.pass(99);
        feed(x, 0, 100);
        due("the ninth time", x.restore(), FULL);
        due("the tape", x.end(1), false);
        due("its end", x.end(0), true);
        due("status()", x.status(), RANGE);
        due("the sheet", x.entry(0, 1), true);
        due("listed", x.listed(0, 2), 415);
        dueImage("its ints", x, BEGUN);
        due("what is undone", x.undo(), 8);
        due("five ints more", x.feed(1, 1, 1, 1, 1), 5);
        due("again", x.again(), BEGUN.length - 5);
    }

    public static void main(String[] args) {
        emptyImage();
        imageOfEachCode();
        twelveOfAMeasure();
        passesStay();
        intsOfTheImage();
        fiveInts();
        firstInts();
        tapeOfTheImage();
        emptyTape();
        tapeIsEmptyThen();
        howManyActs();
        codes();
        numbersNotAllThere();
        callsRefused();
        manyOfAShell();
        measuresRefused();
        shapesRefused();
        tooMany();
        enteredAsByCalls();
        asOnANewRoll();
        nothingToBeUndone();
        staysAsItWas();
        eightTimes();
        fullStaysAsItWas();
        System.out.println(wrong == 0 ? "all answers are as due" : wrong + " answers are not as due");
        if (wrong != 0) {
            System.exit(1);
        }
    }
}
