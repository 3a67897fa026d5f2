/**
 * Each sentence of promises 1 to 18, and of the terms that they call on, that names a boundary: a test
 * of its own, at the boundary, one step inside and one step outside. It names the promise and tells the
 * sentence, with [..] for what is left out. Each roll is used for 512 calls at most; what lies behind
 * that many is asked by LimitsTest.
 */
public final class ActsBoundsTest {
    private static final int NONE = BoilerRoll.NONE;
    private static final int RANGE = BoilerRoll.RANGE;
    private static final int STATE = BoilerRoll.STATE;
    private static final int FULL = BoilerRoll.FULL;
    private static final int LEAST = Integer.MIN_VALUE;
    private static final int MOST = Integer.MAX_VALUE;

    private static int wrong = 0;
    private static String sentence = "";

    /** A call with one of its numbers left open. */
    private interface Call {
        int on(BoilerRoll x, int n);
    }

    /** Names the sentence that the calls behind this are about. */
    private static void of(String where, String words) {
        sentence = where + ", \"" + words + "\": ";
    }

    /** The same, with the one case of it that they are about. */
    private static void of(String where, String words, String which) {
        sentence = where + ", \"" + words + "\" (" + which + "): ";
    }

    private static void due(String told, long got, long want) {
        if (got != want) {
            wrong++;
            System.out.println(sentence + told + " answered " + got + ", due is " + want);
        }
    }

    private static void due(String told, boolean got, boolean want) {
        due(told, got ? 1 : 0, want ? 1 : 0);
    }

    /** An answer, and what status() tells of it. */
    private static void told(BoilerRoll x, String told, int got, int want) {
        due(told, got, want);
        due("status() after " + told, x.status(), want < 0 ? want : 0);
    }

    /** Today is day 100; vessel 0 of day 50: a shell, ten tubes, a valve of day 60; then vessel 1. Six acts. */
    private static BoilerRoll begun() {
        BoilerRoll x = new BoilerRoll();
        x.pass(100);
        x.vessel(3, 4, 500, 50);
        x.part(0, 0, 4000, 10, 100, 1000);
        x.part(0, 2, 4000, 10, 100, 1000);
        x.shape(0, 1, 1, 0, 10);
        x.valve(0, 300, 400, 60);
        x.vessel(4, 4, 500, 50);
        return x;
    }

    private static int filed(BoilerRoll x, int vessel, int part, int day) {
        x.sheet(0, 1);
        x.entry(0, 90);
        return x.measure(vessel, part, day);
    }

    private static void accepted(String what, int n, Call call) {
        BoilerRoll x = begun();
        int acts = x.count(2, 0);
        int answer = call.on(x, n);
        due(what + " " + n + ", whether it is accepted", answer >= 0, true);
        due(what + " " + n + ", status()", x.status(), 0);
        due(what + " " + n + ", acts", x.count(2, 0), acts + 1);
    }

    private static void refused(String what, int n, int want, Call call) {
        BoilerRoll x = begun();
        int acts = x.count(2, 0);
        told(x, what + " " + n, call.on(x, n), want);
        due(what + " " + n + ", acts", x.count(2, 0), acts);
    }

    /** The least and the most, one step inside of each, one outside, and the ends of all ints. */
    private static void edges(String what, int least, int most, int refusal, Call call) {
        accepted(what, least, call);
        accepted(what, most, call);
        if (least < most) {
            accepted(what, least + 1, call);
            accepted(what, most - 1, call);
        }
        refused(what, least - 1, refusal, call);
        refused(what, most + 1, refusal, call);
        refused(what, LEAST, refusal, call);
        refused(what, MOST, refusal, call);
    }

    private static void range(String what, int least, int most, Call call) {
        edges(what, least, most, RANGE, call);
    }

    private static void none(String what, int most, Call call) {
        edges(what, 0, most, NONE, call);
    }

    // ---- promise 1, and what all acts have in common

    private static void noVessels() {
        of("Promise 1", "No vessels");
        BoilerRoll x = new BoilerRoll();
        due("count(1)", x.count(1, 0), 0);
        due("why of vessel 0", x.why(0, 0, 0), NONE);
        due("part of vessel 0", x.part(0, 0, 1, 1, 1, 1), NONE);
        due("list", x.list(LEAST, MOST), 0);
        due("the first one", x.vessel(0, 1, 0, 0), 0);
        due("count(1) then", x.count(1, 0), 1);
    }

    private static void noSheet() {
        of("Promise 1", "no sheet");
        BoilerRoll x = new BoilerRoll();
        x.vessel(0, 1, 0, 0);
        x.part(0, 0, 1, 1, 1, 1);
        due("entry(0)", x.entry(0, 0), false);
        due("measure", x.measure(0, 0, 0), STATE);
        x.sheet(0, 0);
        due("measure of an empty sheet", x.measure(0, 0, 0), 0);
    }

    private static void anEmptyTape() {
        of("Promise 1", "an empty TAPE");
        BoilerRoll x = new BoilerRoll();
        due("end(1)", x.end(1), false);
        due("end(0)", x.end(0), true);
        due("feed", x.feed(0, 0, 0, 0, 0), 5);
        due("restore of a new roll", new BoilerRoll().restore(), 0);
    }

    private static void todayAtFirst() {
        of("Terms 1", "TODAY is 0 at first");
        BoilerRoll x = new BoilerRoll();
        due("count(0)", x.count(0, 0), 0);
        told(x, "a vessel of day 1", x.vessel(0, 1, 0, 1), RANGE);
        told(x, "a vessel of day 0", x.vessel(0, 1, 0, 0), 0);
    }

    private static void daysOfActs() {
        of("Terms 1", "not above TODAY, and not ahead of its vessel's BUILT");
        range("measure of day", 50, 100, (x, n) -> filed(x, 0, 0, n));
        range("patch of day", 50, 100, (x, n) -> x.patch(0, 0, 1, 1, 1, n));
        range("plate of day", 50, 100, (x, n) -> x.plate(0, 0, 1, n));
        range("plug of day", 50, 100, (x, n) -> x.plug(0, 1, 1, n));
        range("valve of day", 50, 100, (x, n) -> x.valve(0, 1, 1, n));
        range("paper of day", 50, 100, (x, n) -> x.paper(0, 0, 0, 0, n));
    }

    private static void dayOfAVessel() {
        of("Terms 1", "not above TODAY");
        range("vessel of day", 0, 100, (x, n) -> x.vessel(0, 1, 0, n));
    }

    private static void builtToday() {
        of("Terms 1", "not above TODAY, and not ahead of its vessel's BUILT", "built today");
        BoilerRoll x = new BoilerRoll();
        x.pass(9);
        x.vessel(0, 1, 0, 9);
        told(x, "a paper ahead of both", x.paper(0, 0, 0, 0, 8), RANGE);
        told(x, "a paper of the one day", x.paper(0, 0, 0, 0, 9), 1);
        told(x, "a paper behind both", x.paper(0, 0, 0, 0, 10), RANGE);
    }

    // ---- promise 2

    private static void daysOfPass() {
        of("Terms 1", "DAYS are 0 .. 40000");
        int[][] asked = {{-1, RANGE}, {0, 0}, {1, 1}, {39999, 39999}, {40000, 40000}, {40001, RANGE}, {LEAST, RANGE}, {MOST, RANGE}};
        for (int[] one : asked) {
            BoilerRoll x = new BoilerRoll();
            told(x, "pass(" + one[0] + ")", x.pass(one[0]), one[1]);
            due("today behind pass(" + one[0] + ")", x.count(0, 0), Math.max(0, one[1]));
            due("passes behind pass(" + one[0] + ")", x.count(3, 0), one[1] < 0 ? 0 : 1);
        }
    }

    private static void todayNeverFalls() {
        of("Promise 2", "TODAY becomes a day, not ahead of what it was: that day");
        BoilerRoll x = new BoilerRoll();
        told(x, "pass(100)", x.pass(100), 100);
        told(x, "pass(99)", x.pass(99), RANGE);
        due("today", x.count(0, 0), 100);
        told(x, "pass(100) again", x.pass(100), 100);
        told(x, "pass(101)", x.pass(101), 101);
        due("today then", x.count(0, 0), 101);
        due("passes", x.count(3, 0), 3);
        told(x, "pass(40000)", x.pass(40000), 40000);
        told(x, "pass(40000) again", x.pass(40000), 40000);
        told(x, "pass(39999)", x.pass(39999), RANGE);
    }

    private static void passShutsWhatWasBefore() {
        of("Promise 2", "ACTS of before can't be undone any more, also if it is the same day");
        BoilerRoll x = begun();
        x.rule(0, 1, 1);
        told(x, "a refused pass", x.pass(99), RANGE);
        told(x, "undo() behind it", x.undo(), 11);
        x.rule(0, 1, 1);
        told(x, "pass of the same day", x.pass(100), 100);
        told(x, "undo() behind it", x.undo(), NONE);
        due("rules", x.count(4, 0), 1);
        x.rule(0, 2, 2);
        told(x, "undo() of what came then", x.undo(), 11);
        told(x, "undo() of no more", x.undo(), NONE);
        x.rule(0, 3, 3);
        told(x, "pass of the next day", x.pass(101), 101);
        told(x, "undo() behind that", x.undo(), NONE);
        due("rules then", x.count(4, 0), 2);
    }

    // ---- promises 3 to 5

    private static void owner() {
        of("Promise 3", "an OWNER 0 .. 999");
        range("owner", 0, 999, (x, n) -> x.vessel(n, 1, 0, 50));
    }

    private static void safety() {
        of("Promise 3", "a SAFETY 1 .. 20");
        range("safety", 1, 20, (x, n) -> x.vessel(0, n, 0, 50));
    }

    private static void makes() {
        of("Promise 3", "MAKES 0 .. 100000");
        range("makes", 0, 100000, (x, n) -> x.vessel(0, 1, n, 50));
    }

    private static void thirtyVessels() {
        of("Promise 3", "At most 30 vessels [..] A vessel: its number. RANGE; FULL (30, or 2000 ACTS)");
        BoilerRoll x = begun();
        for (int v = 2; v < 30; v++) {
            told(x, "vessel " + v, x.vessel(v, 1, 0, 50), v);
        }
        told(x, "vessel 30, a wrong one", x.vessel(30, 0, 0, 50), RANGE);
        told(x, "vessel 30", x.vessel(30, 1, 0, 50), FULL);
        due("vessels", x.count(1, 0), 30);
        due("the last one", x.holds(29, 5, 100, 100), 29);
        due("none behind it", x.count(5, 30), NONE);
        told(x, "a part of the last one", x.part(29, 0, 1, 1, 1, 1), 0);
        told(x, "a part of none", x.part(30, 0, 1, 1, 1, 1), NONE);
        x.undo();
        x.undo();
        told(x, "vessel 29 again", x.vessel(31, 1, 0, 50), 29);
        told(x, "vessel 30 again", x.vessel(30, 1, 0, 50), FULL);
    }

    private static void kind() {
        of("Promise 4", "a KIND (0 SHELL, 1 END, 2 TUBES, 3 DOOR, 4 SEAM)");
        range("kind", 0, 4, (x, n) -> x.part(0, n, 1, 1, 1, 1));
    }

    private static void strength() {
        of("Promise 4", "STRENGTH and RADIUS 1 .. 100000", "strength");
        range("strength", 1, 100000, (x, n) -> x.part(0, 0, n, 1, 1, 1));
    }

    private static void radius() {
        of("Promise 4", "STRENGTH and RADIUS 1 .. 100000", "radius");
        range("radius", 1, 100000, (x, n) -> x.part(0, 0, 1, n, 1, 1));
    }

    private static void thickness() {
        of("Promise 4", "THICKNESS 1 .. 10000");
        range("thickness", 1, 10000, (x, n) -> x.part(0, 0, 1, 1, n, 1));
    }

    private static void share() {
        of("Promise 4", "SHARE 1 .. 1000");
        range("share", 1, 1000, (x, n) -> x.part(0, 0, 1, 1, 1, n));
    }

    private static void vesselOfAPart() {
        of("Promise 4", "in this order, if nothing else is told [..] A part of a vessel: its number. NONE; RANGE; FULL");
        none("vessel", 1, (x, n) -> x.part(n, 0, 1, 1, 1, 1));
        refused("all else wrong, vessel", 2, NONE, (x, n) -> x.part(n, 5, 0, 0, 0, 0));
    }

    private static void twentyFourParts() {
        of("Promise 4", "24 PARTS each [..] A part of a vessel: its number. NONE; RANGE; FULL (24, or 2000 ACTS)");
        BoilerRoll x = begun();
        for (int p = 2; p < 24; p++) {
            told(x, "part " + p, x.part(0, 0, 1, 1, 1, 1), p);
        }
        told(x, "part 24, a wrong one", x.part(0, 5, 1, 1, 1, 1), RANGE);
        told(x, "part 24", x.part(0, 0, 1, 1, 1, 1), FULL);
        due("parts", x.count(5, 0), 24);
        told(x, "the last one is shaped", x.shape(0, 23, 12, 0, 1), 12);
        told(x, "none behind it is", x.shape(0, 24, 1, 0, 1), NONE);
        told(x, "another vessel has its own", x.part(1, 0, 1, 1, 1, 1), 0);
        x.undo();
        x.undo();
        x.undo();
        told(x, "part 23 again", x.part(0, 0, 1, 1, 1, 1), 23);
    }

    private static void partAtFirst() {
        of("Terms 2", "SPOTS 0 .. n - 1, WEAR (tenths in 365 days) and how MANY it is, at first 1, 0 and 1");
        BoilerRoll x = begun();
        x.part(0, 2, 1, 1, 77, 1);
        due("spot 0", x.thick(0, 2, 0, 50, 100), 77);
        due("spot 1", x.thick(0, 2, 1, 50, 100), NONE);
        due("spot 0 on the last day", x.thick(0, 2, 0, 40000, 100), 77);
        due("tubes", x.holds(0, 3, 50, 100), 11);
        told(x, "plug of 1", x.plug(0, 2, 1, 100), 1);
        told(x, "plug of 2", x.plug(0, 2, 2, 100), RANGE);
    }

    private static void spots() {
        of("Promise 5", "A part has SPOTS 1 .. 12");
        range("spots", 1, 12, (x, n) -> x.shape(0, 0, n, 0, 1));
        for (int n : new int[] {1, 2, 11, 12}) {
            BoilerRoll x = begun();
            told(x, "how many spots of " + n, x.shape(0, 0, n, 0, 1), n);
            due("its last spot", x.thick(0, 0, n - 1, 100, 100), 100);
            due("none behind it", x.thick(0, 0, n, 100, 100), NONE);
        }
    }

    private static void wear() {
        of("Promise 5", "WEAR 0 .. 1000");
        range("wear", 0, 1000, (x, n) -> x.shape(0, 0, 1, n, 1));
    }

    private static void manyTubes() {
        of("Promise 5", "is so MANY (1 .. 500 of TUBES, else 1)", "tubes");
        range("many", 1, 500, (x, n) -> x.shape(0, 1, 1, 0, n));
        BoilerRoll x = begun();
        x.shape(0, 1, 1, 0, 500);
        due("tubes", x.holds(0, 3, 100, 100), 500);
    }

    private static void manyOfElse() {
        of("Promise 5", "is so MANY (1 .. 500 of TUBES, else 1)", "else");
        for (int kind = 0; kind <= 4; kind++) {
            if (kind == 2) {
                continue;
            }
            BoilerRoll x = begun();
            x.part(0, kind, 1, 1, 1, 1);
            for (int n : new int[] {LEAST, 0, 2, 500, MOST}) {
                told(x, "many " + n + " of kind " + kind, x.shape(0, 2, 1, 0, n), RANGE);
            }
            told(x, "many 1 of kind " + kind, x.shape(0, 2, 1, 0, 1), 1);
        }
    }

    private static void shapeOfWhat() {
        of("Promise 5", "how many SPOTS. NONE; RANGE; STATE");
        none("vessel", 0, (x, n) -> x.shape(n, 0, 1, 0, 1));
        none("part", 1, (x, n) -> x.shape(0, n, 1, 0, 1));
        refused("all else wrong, part", 2, NONE, (x, n) -> x.shape(0, n, 0, -1, 0));
    }

    private static void shapeBehindActs() {
        of("Promise 5", "STATE: an ACT of the part but part() and shape() stands");
        Call[] acts = {
            (x, n) -> x.sheet(2, 0) + x.measure(0, n, 100), (x, n) -> x.patch(0, n, 1, 1, 1, 100),
            (x, n) -> x.plate(0, n, 1, 100), (x, n) -> x.plug(0, n, 0, 100),
        };
        for (int i = 0; i < acts.length; i++) {
            BoilerRoll x = begun();
            acts[i].on(x, 1);
            due("the act stands, " + i, x.count(2, 0), 7);
            told(x, "a wrong shape behind act " + i, x.shape(0, 1, 13, 0, 1), RANGE);
            told(x, "shape behind act " + i, x.shape(0, 1, 2, 0, 1), STATE);
            told(x, "of another part, behind act " + i, x.shape(0, 0, 2, 0, 1), 2);
            x.undo();
            acts[i].on(x, 1);
            x.undo();
            told(x, "behind the second of two that went", x.shape(0, 1, 2, 0, 1), STATE);
            x.undo();
            told(x, "behind both that went", x.shape(0, 1, 2, 0, 1), 2);
            told(x, "behind a shape", x.shape(0, 1, 3, 0, 1), 3);
        }
    }

    private static void shapeBehindActsOfTheVessel() {
        of("Promise 5", "STATE: an ACT of the part but part() and shape() stands", "acts of the vessel are none");
        BoilerRoll x = begun();
        x.valve(0, 1, 1, 100);
        x.set(0, 1, 2, 100);
        x.set(0, 0, 2, 100);
        x.paper(0, 1, 0, 0, 100);
        x.paper(0, 0, 0, 0, 100);
        x.rule(1, 1, 1);
        x.rule(0, 1, 1);
        x.part(0, 0, 1, 1, 1, 1);
        told(x, "shape of part 0", x.shape(0, 0, 2, 0, 1), 2);
        told(x, "shape of part 1", x.shape(0, 1, 2, 0, 7), 2);
        told(x, "shape of part 2", x.shape(0, 2, 2, 0, 1), 2);
    }

    // ---- promises 6 to 8

    private static void sheetKinds() {
        of("Promise 6", "RANGE: another kind");
        for (int kind : new int[] {LEAST, -1, 3, MOST}) {
            BoilerRoll x = begun();
            told(x, "kind " + kind, x.sheet(kind, 1), RANGE);
            told(x, "kind " + kind + ", n below 0", x.sheet(kind, -1), RANGE);
        }
        for (int kind = 0; kind <= 2; kind++) {
            BoilerRoll x = begun();
            told(x, "kind " + kind, x.sheet(kind, 1), kind == 2 ? 0 : 1);
        }
    }

    private static void sheetOfForty() {
        of("Promise 6", "RANGE: another kind, n above 40");
        for (int kind = 0; kind <= 1; kind++) {
            for (int n : new int[] {39, 40}) {
                BoilerRoll x = begun();
                told(x, "kind " + kind + ", n " + n, x.sheet(kind, n), n);
                due("its last entry", x.entry(n - 1, 1), true);
                due("none behind it", x.entry(n, 1), false);
            }
            for (int n : new int[] {41, MOST}) {
                BoilerRoll x = begun();
                told(x, "kind " + kind + ", n " + n, x.sheet(kind, n), RANGE);
            }
        }
        BoilerRoll x = begun();
        told(x, "missing, n 41", x.sheet(2, 41), RANGE);
    }

    private static void sheetBelowNothing() {
        of("Promise 6", "STATE: n below 0 (of kinds 0, 1)");
        for (int kind = 0; kind <= 1; kind++) {
            for (int n : new int[] {LEAST, -2, -1}) {
                BoilerRoll x = begun();
                told(x, "kind " + kind + ", n " + n, x.sheet(kind, n), STATE);
            }
            for (int n : new int[] {0, 1}) {
                BoilerRoll x = begun();
                told(x, "kind " + kind + ", n " + n, x.sheet(kind, n), n);
            }
        }
    }

    private static void missingSheet() {
        of("Promise 6", "2: missing: how many entries (0 of a missing one)");
        for (int n : new int[] {LEAST, -1, 0, 1, 39, 40}) {
            BoilerRoll x = begun();
            told(x, "missing, n " + n, x.sheet(2, n), 0);
            due("entry(0)", x.entry(0, 1), false);
            due("entry(-1)", x.entry(-1, 1), false);
            told(x, "it is there, and filed", x.measure(0, 0, 100), 0);
        }
    }

    private static void sheetInPlace() {
        of("Promise 6", "in place of the one that there is [..] n entries, all 0");
        BoilerRoll x = begun();
        x.shape(0, 0, 3, 0, 1);
        x.sheet(0, 3);
        x.entry(0, 70);
        x.entry(1, 71);
        x.entry(2, 72);
        x.sheet(0, 2);
        due("entry 2 of the new one", x.entry(2, 60), false);
        told(x, "the new one is filed", x.measure(0, 0, 100), 2);
        due("spot 0 is 0", x.thick(0, 0, 0, 100, 100), 0);
        due("spot 1 is 0", x.thick(0, 0, 1, 100, 100), 0);
        due("spot 2 was not measured", x.thick(0, 0, 2, 100, 100), 100);
        x.sheet(1, 1);
        x.entry(0, Float.floatToRawIntBits(6.5f));
        x.sheet(0, 1);
        x.sheet(1, 1);
        told(x, "one of floats", x.measure(0, 0, 100), 1);
        due("it is 0, too", x.thick(0, 0, 0, 100, 100), 0);
        x.sheet(0, 1);
        x.sheet(2, 1);
        told(x, "a missing one in place of shorts", x.measure(0, 0, 100), 0);
        x.sheet(2, 1);
        x.sheet(0, 1);
        told(x, "shorts in place of a missing one", x.measure(0, 0, 100), 1);
    }

    private static void sheetStays() {
        of("Promise 6", "the sheet stays by both");
        int[][] refusals = {{3, 1, RANGE}, {-1, 1, RANGE}, {0, 41, RANGE}, {1, 41, RANGE}, {0, -1, STATE}, {1, -1, STATE}};
        for (int[] one : refusals) {
            BoilerRoll x = begun();
            x.shape(0, 0, 3, 0, 1);
            x.sheet(0, 2);
            x.entry(0, 70);
            x.entry(1, 71);
            told(x, "sheet(" + one[0] + ", " + one[1] + ")", x.sheet(one[0], one[1]), one[2]);
            due("it has no entry 2", x.entry(2, 9), false);
            told(x, "it is filed", x.measure(0, 0, 100), 2);
            due("entry 0", x.thick(0, 0, 0, 100, 100), 70);
            due("entry 1", x.thick(0, 0, 1, 100, 100), 71);
            BoilerRoll y = begun();
            y.sheet(one[0], one[1]);
            told(y, "where there was none, there is none", y.measure(0, 0, 100), STATE);
        }
    }

    private static void entries() {
        of("Promise 7", "Entry i of the sheet becomes v [..] true; false if there is no sheet, it is missing, or has no such entry");
        for (int n : new int[] {0, 1, 2, 40}) {
            BoilerRoll x = begun();
            x.sheet(0, n);
            for (int i : new int[] {LEAST, -1, 0, 1, n - 1, n, n + 1, MOST}) {
                due("entry " + i + " of " + n, x.entry(i, 7), i >= 0 && i < n);
            }
        }
        BoilerRoll x = begun();
        due("no sheet", x.entry(0, 7), false);
        x.sheet(0, 1);
        x.entry(0, 7);
        due("written twice", x.entry(0, 8), true);
        x.measure(0, 0, 100);
        due("the second counts", x.thick(0, 0, 0, 100, 100), 8);
        due("no sheet any more", x.entry(0, 7), false);
    }

    /** What a sheet of one entry tells of a part: its tenths, or what refuses them, or NONE where it is not measured. */
    private static int tenths(int kind, int v) {
        BoilerRoll x = begun();
        x.sheet(kind, 1);
        due("entry(0, " + v + ")", x.entry(0, v), true);
        int answer = x.measure(0, 0, 100);
        return answer == 1 ? x.thick(0, 0, 0, 100, 100) : answer == 0 ? NONE : answer;
    }

    private static int ofFloat(float f) {
        return tenths(1, Float.floatToRawIntBits(f));
    }

    private static void shorts() {
        of("Promise 7", "of shorts its lowest 16 bits, with a sign (tenths)");
        due("1", tenths(0, 1), 1);
        due("65535 is -1", tenths(0, 65535), RANGE);
        due("65536 is 0", tenths(0, 65536), 0);
        due("65537 is 1", tenths(0, 65537), 1);
        due("32768 is -32768", tenths(0, 32768), RANGE);
        due("-65536 is 0", tenths(0, -65536), 0);
        due("-65535 is 1", tenths(0, -65535), 1);
        due("-65537 is -1", tenths(0, -65537), RANGE);
        due("-55536 is 10000", tenths(0, -55536), 10000);
        due("75536 is 10000", tenths(0, 75536), 10000);
        due("the least int is 0", tenths(0, LEAST), 0);
        due("the greatest int is -1", tenths(0, MOST), RANGE);
    }

    private static void tenthsOfShorts() {
        of("Promise 8", "tenths are not 0 .. 10000", "shorts");
        int[][] asked = {{-1, RANGE}, {0, 0}, {1, 1}, {9999, 9999}, {10000, 10000}, {10001, RANGE}, {32767, RANGE}};
        for (int[] one : asked) {
            due("" + one[0], tenths(0, one[0]), one[1]);
        }
    }

    private static void floatsCut() {
        of("Promise 8", "a float counts by its tenths: ten times it, as a float, cut towards 0");
        due("0.1", ofFloat(0.1f), 1);
        due("just below 0.1", ofFloat(Math.nextDown(0.1f)), 0);
        due("0.7, which is below 0.7 and is rounded up by ten times", ofFloat(0.7f), 7);
        due("two steps below 0.7", ofFloat(Math.nextDown(Math.nextDown(0.7f))), 6);
        due("9.99", ofFloat(9.99f), 99);
        due("10", ofFloat(10f), 100);
        due("0", ofFloat(0f), 0);
        due("-0", ofFloat(-0f), 0);
        due("the least float", ofFloat(Float.MIN_VALUE), 0);
        due("the least float below 0", ofFloat(-Float.MIN_VALUE), 0);
        due("-0.05, cut towards 0", ofFloat(-0.05f), 0);
        due("just above -0.1", ofFloat(Math.nextUp(-0.1f)), 0);
        due("-0.1", ofFloat(-0.1f), RANGE);
        for (int bits = 0x3C000000; bits < 0x44800000; bits += 0x0003D0F1) {
            float f = Float.intBitsToFloat(bits);
            int want = (int) (10f * f);
            due("" + f, ofFloat(f), want > 10000 ? RANGE : want);
        }
    }

    private static void tenthsOfFloats() {
        of("Promise 8", "tenths are not 0 .. 10000", "floats");
        due("999.9", ofFloat(999.9f), (int) (10f * 999.9f));
        due("just below 1000", ofFloat(Math.nextDown(1000f)), (int) (10f * Math.nextDown(1000f)));
        due("1000", ofFloat(1000f), 10000);
        due("1000.05, cut", ofFloat(1000.05f), 10000);
        due("just below 1000.1, cut", ofFloat(Math.nextDown(1000.1f)), 10000);
        due("1000.1, which ten times rounds up", ofFloat(1000.1f), RANGE);
        due("1000.11", ofFloat(1000.11f), RANGE);
        due("1024", ofFloat(1024f), RANGE);
        due("2048", ofFloat(2048f), RANGE);
        due("2 to the 28th, 29th, 30th", ofFloat(1 << 28) + ofFloat(1 << 29) + ofFloat(1 << 30), 3 * RANGE);
        due("the greatest float", ofFloat(Float.MAX_VALUE), RANGE);
        due("the least below 0", ofFloat(-Float.MAX_VALUE), RANGE);
        due("-1000", ofFloat(-1000f), RANGE);
    }

    private static void noNumber() {
        of("Promise 8", "A spot is not measured, if the sheet is missing, or has no such entry, or a float that is no number",
                "no number");
        for (int bits : new int[] {0x7F800001, 0x7FC00000, 0x7FFFFFFF, 0xFF800001, 0xFFC00000, -1}) {
            due(Integer.toHexString(bits), tenths(1, bits), NONE);
        }
        due("without an end, next to those", tenths(1, 0x7F800000), RANGE);
        due("without an end, below 0", tenths(1, 0xFF800000), RANGE);
        due("the greatest with an end", tenths(1, 0x7F7FFFFF), RANGE);
        due("the least with an end", tenths(1, 0xFF7FFFFF), RANGE);
        due("shorts with the same bits are numbers", tenths(0, 0x7FC00000), 0);
    }

    private static void noSuchEntry() {
        of("Promise 8", "A spot is not measured, if the sheet is missing, or has no such entry, or a float that is no number",
                "no such entry");
        for (int n : new int[] {0, 1, 2, 3, 4, 5}) {
            BoilerRoll x = begun();
            x.shape(0, 0, 4, 0, 1);
            x.sheet(0, n);
            for (int i = 0; i < n; i++) {
                x.entry(i, 60 + i);
            }
            told(x, n + " entries of 4 spots", x.measure(0, 0, 100), Math.min(n, 4));
            for (int s = 0; s < 4; s++) {
                due("spot " + s + " of " + n + " entries", x.thick(0, 0, s, 100, 100), s < n ? 60 + s : 100);
            }
        }
    }

    private static void missingIsFiled() {
        of("Promise 8", "A spot is not measured, if the sheet is missing, or has no such entry, or a float that is no number",
                "missing");
        BoilerRoll x = begun();
        x.shape(0, 0, 12, 0, 1);
        x.sheet(2, 12);
        told(x, "a missing one", x.measure(0, 0, 100), 0);
        due("it is an act", x.count(2, 0), 8);
        due("spot 0", x.thick(0, 0, 0, 100, 100), 100);
        due("spot 11", x.thick(0, 0, 11, 100, 100), 100);
    }

    private static void entryOfSpot() {
        of("Promise 8", "entry s is of spot s");
        BoilerRoll x = begun();
        x.shape(0, 0, 12, 0, 1);
        x.sheet(0, 40);
        for (int i = 0; i < 40; i++) {
            x.entry(i, i < 12 ? 40 + i : 20000);
        }
        told(x, "twelve of forty", x.measure(0, 0, 100), 12);
        for (int s = 0; s < 12; s++) {
            due("spot " + s, x.thick(0, 0, s, 100, 100), 40 + s);
        }
    }

    private static void howManyMeasured() {
        of("Promise 8", "A MEASURE of a DAY: how many spots were measured (0, too)");
        for (int many = 0; many <= 12; many++) {
            BoilerRoll x = begun();
            x.shape(0, 0, 12, 0, 1);
            x.sheet(1, 12);
            for (int i = 0; i < 12; i++) {
                x.entry(i, i < 12 - many ? -1 : Float.floatToRawIntBits(5f));
            }
            told(x, "the last " + many + " of twelve", x.measure(0, 0, 100), many);
            due("acts", x.count(2, 0), 8);
        }
    }

    private static void firstSpotOutOfRange() {
        of("Promise 8", "RANGE (the day; then the first spot whose tenths are not 0 .. 10000)");
        for (int s = 0; s <= 5; s++) {
            BoilerRoll x = begun();
            x.shape(0, 0, 5, 0, 1);
            x.sheet(0, 6);
            x.entry(s, 10001);
            told(x, "entry " + s + " of five spots", x.measure(0, 0, 100), s < 5 ? RANGE : 5);
        }
    }

    private static void measureWithoutASheet() {
        of("Promise 8", "STATE: there is no sheet (asked ahead of RANGE)");
        BoilerRoll x = begun();
        told(x, "no sheet", x.measure(0, 0, 100), STATE);
        told(x, "no sheet, a day too early", x.measure(0, 0, 49), STATE);
        told(x, "no sheet, a day too late", x.measure(0, 0, 101), STATE);
        told(x, "no sheet, no part", x.measure(0, 2, 100), NONE);
        x.sheet(0, 1);
        told(x, "a sheet, a day too late", x.measure(0, 0, 101), RANGE);
        told(x, "a sheet", x.measure(0, 0, 100), 1);
        told(x, "no sheet again", x.measure(0, 0, 100), STATE);
    }

    private static void measureOfWhat() {
        of("Promise 8", "NONE");
        none("vessel", 0, (x, n) -> filed(x, n, 0, 100));
        none("part", 1, (x, n) -> filed(x, 0, n, 100));
        refused("a wrong day, part", 2, NONE, (x, n) -> filed(x, 0, n, 101));
    }

    private static void sheetStaysWhereRefused() {
        of("Promise 8", "The sheet is gone. [..] (Refused: the sheet stays.)");
        BoilerRoll x = begun();
        x.sheet(0, 1);
        x.entry(0, 90);
        told(x, "no part", x.measure(0, 2, 100), NONE);
        told(x, "no vessel", x.measure(2, 0, 100), NONE);
        told(x, "a day too early", x.measure(0, 0, 49), RANGE);
        x.entry(0, 10001);
        told(x, "tenths too great", x.measure(0, 0, 100), RANGE);
        due("it is there", x.entry(0, 90), true);
        told(x, "it is filed", x.measure(0, 0, 100), 1);
        due("spot 0", x.thick(0, 0, 0, 100, 100), 90);
        due("it is gone", x.entry(0, 90), false);
        told(x, "undo()", x.undo(), 4);
        told(x, "undo() does not bring it", x.measure(0, 0, 100), STATE);
        for (int kind = 0; kind <= 2; kind++) {
            x.sheet(kind, 0);
            told(x, "of kind " + kind + ", no spot measured", x.measure(0, 0, 100), 0);
            told(x, "of kind " + kind + ", it is gone, too", x.measure(0, 0, 100), STATE);
        }
    }

    // ---- promises 9 to 15

    private static void patches() {
        of("Promise 9", "(STRENGTH, THICKNESS, SHARE as a part's): 1. NONE; RANGE");
        range("strength", 1, 100000, (x, n) -> x.patch(0, 0, n, 1, 1, 100));
        range("thickness", 1, 10000, (x, n) -> x.patch(0, 0, 1, n, 1, 100));
        range("share", 1, 1000, (x, n) -> x.patch(0, 0, 1, 1, n, 100));
        due("a second one of a part", begun().patch(0, 0, 1, 1, 1, 100) + begun().patch(0, 1, 9, 9, 9, 100), 2);
    }

    private static void patchOfWhat() {
        of("Promise 9", "as a part's): 1. NONE; RANGE; FULL");
        none("vessel", 0, (x, n) -> x.patch(n, 0, 1, 1, 1, 100));
        none("part", 1, (x, n) -> x.patch(0, n, 1, 1, 1, 100));
        refused("all else wrong, part", 2, NONE, (x, n) -> x.patch(0, n, 0, 0, 0, 101));
    }

    private static void plates() {
        of("Promise 10", "a part has a new PLATE of a THICKNESS from a DAY on: 1. NONE; RANGE");
        range("thickness", 1, 10000, (x, n) -> x.plate(0, 0, n, 100));
        due("its answer", begun().plate(0, 0, 10000, 100), 1);
    }

    private static void plateOfWhat() {
        of("Promise 10", "from a DAY on: 1. NONE; RANGE; FULL");
        none("vessel", 0, (x, n) -> x.plate(n, 0, 1, 100));
        none("part", 1, (x, n) -> x.plate(0, n, 1, 100));
        refused("all else wrong, part", 2, NONE, (x, n) -> x.plate(0, n, 0, 101));
    }

    private static void plugs() {
        of("Promise 11", "Of TUBES n (0 .. MANY) are PLUGGED from a DAY on: n");
        range("n", 0, 10, (x, n) -> x.plug(0, 1, n, 100));
        for (int n : new int[] {0, 1, 9, 10}) {
            due("its answer", begun().plug(0, 1, n, 100), n);
        }
        BoilerRoll x = begun();
        x.shape(0, 1, 1, 0, 500);
        told(x, "501 of 500", x.plug(0, 1, 501, 100), RANGE);
        told(x, "500 of 500", x.plug(0, 1, 500, 100), 500);
    }

    private static void plugOfWhat() {
        of("Promise 11", "NONE (also of a part that is none of TUBES); RANGE; FULL");
        for (int v : new int[] {LEAST, -1, 1, 2, MOST}) {
            refused("vessel", v, NONE, (x, n) -> x.plug(n, 1, 0, 100));
        }
        for (int p : new int[] {LEAST, -1, 0, 2, MOST}) {
            refused("part", p, NONE, (x, n) -> x.plug(0, n, 0, 100));
            refused("all else wrong, part", p, NONE, (x, n) -> x.plug(0, n, -1, 101));
        }
        for (int kind = 0; kind <= 4; kind++) {
            BoilerRoll x = begun();
            x.part(0, kind, 1, 1, 1, 1);
            told(x, "kind " + kind, x.plug(0, 2, 1, 100), kind == 2 ? 1 : NONE);
        }
    }

    private static void settings() {
        of("Promise 12", "a SETTING 1 .. 10000 (tenths), PASSES 1 .. 100000");
        range("setting", 1, 10000, (x, n) -> x.valve(0, n, 1, 100));
        range("passes", 1, 100000, (x, n) -> x.valve(0, 1, n, 100));
    }

    private static void valveOfWhat() {
        of("Promise 12", "A VALVE: its number. NONE; RANGE");
        none("vessel", 1, (x, n) -> x.valve(n, 1, 1, 100));
        refused("all else wrong, vessel", 2, NONE, (x, n) -> x.valve(n, 0, 0, 101));
    }

    private static void sixValves() {
        of("Promise 12", "VALVES 0 .. 5 of a vessel [..] its number. NONE; RANGE; FULL (6, or 2000 ACTS)");
        BoilerRoll x = begun();
        for (int i = 1; i < 6; i++) {
            told(x, "valve " + i, x.valve(0, 5, 5, 100), i);
        }
        told(x, "valve 6, a wrong one", x.valve(0, 0, 5, 100), RANGE);
        told(x, "valve 6", x.valve(0, 5, 5, 100), FULL);
        due("valves", x.count(6, 0), 6);
        told(x, "valve 5 is set", x.set(0, 5, 7, 100), 7);
        told(x, "another vessel has its own", x.valve(1, 5, 5, 100), 0);
        x.undo();
        x.undo();
        x.undo();
        told(x, "valve 5 again", x.valve(0, 5, 5, 100), 5);
    }

    private static void sets() {
        of("Promise 13", "A VALVE's SETTING from a DAY on, not ahead of its own: the setting. NONE; RANGE; FULL",
                "the setting");
        range("setting", 1, 10000, (x, n) -> x.set(0, 0, n, 100));
        for (int n : new int[] {1, 2, 9999, 10000}) {
            due("its answer", begun().set(0, 0, n, 100), n);
        }
    }

    private static void daysOfSets() {
        of("Promise 13", "A VALVE's SETTING from a DAY on, not ahead of its own: the setting. NONE; RANGE; FULL",
                "the day");
        range("day", 60, 100, (x, n) -> x.set(0, 0, 1, n));
        BoilerRoll x = begun();
        x.valve(0, 1, 1, 50);
        x.valve(0, 1, 1, 100);
        told(x, "of the day built", x.set(0, 1, 1, 50), 1);
        told(x, "of valve 2, a day too early", x.set(0, 2, 1, 99), RANGE);
        told(x, "of valve 2, its day", x.set(0, 2, 1, 100), 1);
    }

    private static void setOfWhat() {
        of("Promise 13", "the setting. NONE; RANGE; FULL");
        none("vessel", 0, (x, n) -> x.set(n, 0, 1, 100));
        none("valve", 0, (x, n) -> x.set(0, n, 1, 100));
        refused("all else wrong, valve", 1, NONE, (x, n) -> x.set(0, n, 0, 101));
        BoilerRoll x = begun();
        x.valve(1, 1, 1, 100);
        x.valve(1, 1, 1, 100);
        told(x, "valve 1 of another vessel", x.set(0, 1, 1, 100), NONE);
    }

    private static void papers() {
        of("Promise 14", "each with WHO (0 .. 999) and FOUND (0 .. 9999) [..] A PAPER of a kind 0 .. 5");
        range("kind", 0, 5, (x, n) -> x.paper(0, n, 0, 0, 100));
        range("who", 0, 999, (x, n) -> x.paper(0, 0, n, 0, 100));
        range("found", 0, 9999, (x, n) -> x.paper(0, 0, 0, n, 100));
    }

    private static void howManyPapers() {
        of("Promise 14", "how many papers of the vessel there are");
        BoilerRoll x = begun();
        for (int kind = 0; kind <= 5; kind++) {
            told(x, "paper of kind " + kind, x.paper(0, kind, 1, 1, 100), kind + 1);
        }
        told(x, "a refused one", x.paper(0, 6, 1, 1, 100), RANGE);
        told(x, "of another vessel", x.paper(1, 0, 1, 1, 100), 1);
        told(x, "the seventh", x.paper(0, 0, 1, 1, 100), 7);
        x.undo();
        told(x, "the seventh again", x.paper(0, 0, 1, 1, 100), 7);
    }

    private static void paperOfWhat() {
        of("Promise 14", "how many papers of the vessel there are. NONE; RANGE; FULL");
        none("vessel", 1, (x, n) -> x.paper(n, 0, 0, 0, 100));
        refused("all else wrong, vessel", 2, NONE, (x, n) -> x.paper(n, 6, -1, -1, 101));
    }

    private static void rules() {
        of("Promise 15", "A rule for kind 0, 1 or 2: days YOUNG, OLD, 1 .. 4000 each");
        range("kind", 0, 2, (x, n) -> x.rule(n, 1, 1));
        range("young", 1, 4000, (x, n) -> x.rule(0, n, 1));
        range("old", 1, 4000, (x, n) -> x.rule(0, 1, n));
    }

    private static void howManyRules() {
        of("Promise 15", "how many rules there are");
        BoilerRoll x = new BoilerRoll();
        told(x, "the first, without a vessel", x.rule(0, 1, 1), 1);
        told(x, "a refused one", x.rule(3, 1, 1), RANGE);
        told(x, "the second, of the same kind", x.rule(0, 1, 1), 2);
        told(x, "the third", x.rule(2, 4000, 4000), 3);
        x.undo();
        told(x, "the third again", x.rule(1, 1, 1), 3);
    }

    // ---- promises 16 to 18

    private static void undoSincePass() {
        of("Promise 16", "The ACT entered last goes, if it was entered since the latest pass(): its code; NONE");
        BoilerRoll x = new BoilerRoll();
        told(x, "of a new roll", x.undo(), NONE);
        x.pass(10);
        told(x, "behind a pass alone", x.undo(), NONE);
        x.vessel(1, 1, 1, 10);
        x.pass(10);
        x.part(0, 2, 1, 1, 1, 1);
        x.shape(0, 0, 1, 0, 1);
        filed(x, 0, 0, 10);
        x.patch(0, 0, 1, 1, 1, 10);
        x.plate(0, 0, 1, 10);
        x.plug(0, 0, 1, 10);
        x.valve(0, 1, 1, 10);
        x.set(0, 0, 2, 10);
        x.paper(0, 0, 0, 0, 10);
        x.rule(0, 1, 1);
        told(x, "a refused act is not the last", x.rule(0, 0, 1), RANGE);
        for (int code = 11; code >= 2; code--) {
            due("acts ahead of the undo of code " + code, x.count(2, 0), code);
            told(x, "code " + code, x.undo(), code);
        }
        told(x, "of the act ahead of the pass", x.undo(), NONE);
        due("acts", x.count(2, 0), 1);
        due("passes stay", x.count(3, 0), 2);
        due("today stays", x.count(0, 0), 10);
        x.pass(11);
        x.vessel(1, 1, 1, 11);
        told(x, "code 1", x.undo(), 1);
        told(x, "no more", x.undo(), NONE);
    }

    private static void numbersGivenAgain() {
        of("Promise 16", "Numbers of vessels, parts, valves that went are given again");
        BoilerRoll x = begun();
        told(x, "a vessel", x.vessel(8, 1, 0, 70), 2);
        told(x, "a part of it", x.part(2, 2, 1, 1, 9, 1), 0);
        told(x, "its shape", x.shape(2, 0, 5, 9, 40), 5);
        told(x, "another part of it", x.part(2, 2, 1, 1, 9, 1), 1);
        told(x, "its shape", x.shape(2, 1, 5, 9, 40), 5);
        told(x, "a valve of it", x.valve(2, 5, 5, 90), 0);
        told(x, "a paper of it", x.paper(2, 5, 55, 0, 80), 1);
        told(x, "a patch", x.patch(2, 0, 1, 1, 1, 90), 1);
        for (int code : new int[] {5, 10, 8, 3, 2, 3, 2, 1}) {
            told(x, "code " + code, x.undo(), code);
        }
        due("no vessel 2", x.why(2, 100, 100), NONE);
        told(x, "no part of it", x.part(2, 0, 1, 1, 1, 1), NONE);
        told(x, "the vessel's number", x.vessel(9, 1, 0, 60), 2);
        due("its owner", x.holds(2, 5, 100, 100), 9);
        due("parts", x.count(5, 2), 0);
        due("valves", x.count(6, 2), 0);
        due("papers", x.count(7, 2), 0);
        told(x, "no part yet", x.shape(2, 0, 1, 0, 1), NONE);
        told(x, "no valve yet", x.set(2, 0, 1, 100), NONE);
        told(x, "the part's number", x.part(2, 2, 1, 1, 8, 1), 0);
        x.sheet(0, 5);
        told(x, "it has one spot, not five", x.measure(2, 0, 100), 1);
        told(x, "it is one tube, not forty", x.plug(2, 0, 2, 100), RANGE);
        x.undo();
        x.undo();
        told(x, "the part's number again", x.part(2, 0, 1, 1, 8, 1), 0);
        due("its spots are the first", x.thick(2, 0, 1, 100, 100), NONE);
        due("it is no patched one", x.shape(2, 0, 2, 0, 1), 2);
        told(x, "it is none of tubes", x.plug(2, 0, 0, 100), NONE);
        x.sheet(0, 5);
        told(x, "of two spots, not five", x.measure(2, 0, 100), 2);
        told(x, "the next part's number", x.part(2, 2, 1, 1, 8, 1), 1);
        told(x, "one tube is plugged", x.plug(2, 1, 1, 100), 1);
        told(x, "there are no two", x.plug(2, 1, 2, 100), RANGE);
        told(x, "the valve's number", x.valve(2, 6, 6, 60), 0);
        told(x, "it may be set from its own day on", x.set(2, 0, 6, 60), 6);
    }

    private static void statusOfTheLatest() {
        of("Promise 17", "Of the latest call above that refuses (all but entry()): 0, or what it answered below 0");
        BoilerRoll x = new BoilerRoll();
        due("at first", x.status(), 0);
        x.undo();
        due("NONE of undo", x.status(), NONE);
        due("told twice", x.status(), NONE);
        x.sheet(0, -1);
        due("STATE of sheet", x.status(), STATE);
        x.entry(0, 0);
        due("entry() leaves it", x.status(), STATE);
        x.pass(-1);
        due("RANGE of pass", x.status(), RANGE);
        x.count(9, 9);
        x.why(0, -1, 0);
        x.thick(0, 0, 0, 0, 0);
        x.due(0, 3, 0, 0);
        x.list(0, 0);
        x.listed(0, 0);
        x.imageAt(-1);
        x.end(-1);
        x.feed(12, 0, 0, 0, 0);
        due("a restore that is refused", x.restore(), -10);
        due("calls that are not above leave it", x.status(), RANGE);
        x.pass(0);
        due("accepted: 0", x.status(), 0);
        x.vessel(0, 1, 0, 0);
        x.pass(-1);
        x.undo();
        due("accepted by undo: 0", x.status(), 0);
        x.pass(-1);
        x.sheet(2, 0);
        due("accepted by sheet: 0", x.status(), 0);
    }

    private static void counts() {
        of("Promise 18", "What 0: TODAY, 1: vessels, 2: ACTS that stand, 3: pass()es, 4: rules; of vessel v 5: parts, 6: valves, 7: papers");
        BoilerRoll x = begun();
        x.pass(101);
        x.rule(0, 1, 1);
        x.rule(0, 1, 1);
        x.rule(0, 1, 1);
        x.paper(0, 3, 0, 0, 100);
        x.paper(0, 3, 0, 0, 100);
        x.paper(0, 3, 0, 0, 100);
        x.paper(0, 3, 0, 0, 100);
        int[] want = {101, 2, 13, 2, 3, 2, 1, 4};
        for (int what = 0; what < want.length; what++) {
            due("what " + what, x.count(what, 0), want[what]);
        }
        due("of vessel 1, parts", x.count(5, 1), 0);
        due("of vessel 1, valves", x.count(6, 1), 0);
        due("of vessel 1, papers", x.count(7, 1), 0);
    }

    private static void countOfNone() {
        of("Promise 18", "NONE if there is none such");
        BoilerRoll x = begun();
        for (int what : new int[] {LEAST, -1, 8, 9, MOST}) {
            due("what " + what, x.count(what, 0), NONE);
        }
        for (int v : new int[] {LEAST, -1, 2, 30, MOST}) {
            for (int what = 5; what <= 7; what++) {
                due("what " + what + " of vessel " + v, x.count(what, v), NONE);
            }
            due("today, whatever vessel", x.count(0, v), 100);
            due("vessels, whatever vessel", x.count(1, v), 2);
            due("acts, whatever vessel", x.count(2, v), 6);
            due("passes, whatever vessel", x.count(3, v), 1);
            due("rules, whatever vessel", x.count(4, v), 0);
        }
    }

    // ---- a call that is refused

    private static int[] numbersOf(BoilerRoll x) {
        int[] all = new int[x.image() + 12];
        for (int i = 0; i < all.length - 12; i++) {
            all[i] = x.imageAt(i);
        }
        for (int what = 0; what < 8; what++) {
            all[all.length - 12 + what] = x.count(what, 0);
        }
        for (int what = 0; what < 4; what++) {
            all[all.length - 4 + what] = x.listed(0, what);
        }
        return all;
    }

    private static void refusedChangesNothing() {
        of("Terms 1", "A call that is refused answers [..] it changes nothing but status()");
        Call[] refused = {
            (x, n) -> x.pass(99), (x, n) -> x.pass(40001), (x, n) -> x.vessel(0, 0, 0, 50), (x, n) -> x.part(2, 0, 1, 1, 1, 1),
            (x, n) -> x.part(0, 0, 1, 1, 1, 1001), (x, n) -> x.shape(0, 2, 1, 0, 1), (x, n) -> x.shape(0, 0, 1, 0, 2),
            (x, n) -> x.shape(0, 1, 2, 1, 1), (x, n) -> x.sheet(3, 0), (x, n) -> x.sheet(1, 41), (x, n) -> x.sheet(1, -1),
            (x, n) -> x.measure(0, 2, 100), (x, n) -> x.measure(0, 0, 101), (x, n) -> x.patch(0, 2, 1, 1, 1, 100),
            (x, n) -> x.patch(0, 0, 1, 1, 0, 100), (x, n) -> x.plate(0, 2, 1, 100), (x, n) -> x.plate(0, 0, 0, 100),
            (x, n) -> x.plug(0, 0, 0, 100), (x, n) -> x.plug(0, 1, 11, 100), (x, n) -> x.valve(2, 1, 1, 100),
            (x, n) -> x.valve(0, 1, 0, 100), (x, n) -> x.set(0, 1, 1, 100), (x, n) -> x.set(0, 0, 1, 59),
            (x, n) -> x.paper(2, 0, 0, 0, 100), (x, n) -> x.paper(0, 0, 0, 0, 101), (x, n) -> x.rule(3, 1, 1),
        };
        for (int i = 0; i < refused.length; i++) {
            BoilerRoll x = begun();
            x.plug(0, 1, 1, 100);
            x.list(LEAST, MOST);
            x.sheet(0, 1);
            x.entry(0, 33);
            int[] before = numbersOf(x);
            due("call " + i + ", whether it is refused", refused[i].on(x, 0) < 0, true);
            int[] behind = numbersOf(x);
            due("call " + i + ", how many numbers", behind.length, before.length);
            for (int at = 0; at < Math.min(behind.length, before.length); at++) {
                due("call " + i + ", number " + at, behind[at], before[at]);
            }
            due("call " + i + ", the sheet", x.measure(0, 0, 100), 1);
            due("call " + i + ", its entry", x.thick(0, 0, 0, 100, 100), 33);
            due("call " + i + ", what is undone", x.undo(), 4);
            due("call " + i + ", then", x.undo(), 7);
        }
    }

    private static void undoRefusedChangesNothing() {
        of("Terms 1", "A call that is refused answers [..] it changes nothing but status()", "undo()");
        BoilerRoll x = begun();
        x.pass(100);
        x.list(LEAST, MOST);
        x.sheet(0, 1);
        int[] before = numbersOf(x);
        told(x, "undo()", x.undo(), NONE);
        int[] behind = numbersOf(x);
        due("how many numbers", behind.length, before.length);
        for (int at = 0; at < Math.min(behind.length, before.length); at++) {
            due("number " + at, behind[at], before[at]);
        }
        due("the sheet", x.entry(0, 1), true);
    }

    private static void daysAndVessels() {
        noVessels();
        noSheet();
        anEmptyTape();
        todayAtFirst();
        daysOfActs();
        dayOfAVessel();
        builtToday();
        daysOfPass();
        todayNeverFalls();
        passShutsWhatWasBefore();
        owner();
        safety();
        makes();
        thirtyVessels();
    }

    private static void parts() {
        kind();
        strength();
        radius();
        thickness();
        share();
        vesselOfAPart();
        twentyFourParts();
        partAtFirst();
        spots();
        wear();
        manyTubes();
        manyOfElse();
        shapeOfWhat();
        shapeBehindActs();
        shapeBehindActsOfTheVessel();
    }

    private static void sheets() {
        sheetKinds();
        sheetOfForty();
        sheetBelowNothing();
        missingSheet();
        sheetInPlace();
        sheetStays();
        entries();
        shorts();
        tenthsOfShorts();
        floatsCut();
        tenthsOfFloats();
        noNumber();
        noSuchEntry();
        missingIsFiled();
        entryOfSpot();
        howManyMeasured();
        firstSpotOutOfRange();
        measureWithoutASheet();
        measureOfWhat();
        sheetStaysWhereRefused();
    }

    private static void otherActs() {
        patches();
        patchOfWhat();
        plates();
        plateOfWhat();
        plugs();
        plugOfWhat();
        settings();
        valveOfWhat();
        sixValves();
        sets();
        daysOfSets();
        setOfWhat();
        papers();
        howManyPapers();
        paperOfWhat();
        rules();
        howManyRules();
    }

    public static void main(String[] args) {
        daysAndVessels();
        parts();
        sheets();
        otherActs();
        undoSincePass();
        numbersGivenAgain();
        statusOfTheLatest();
        counts();
        countOfNone();
        refusedChangesNothing();
        undoRefusedChangesNothing();
        System.out.println(wrong == 0 ? "all answers are as due" : wrong + " answers are not as due");
        if (wrong != 0) {
            System.exit(1);
        }
    }
}
