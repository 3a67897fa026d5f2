/** Promises 1 to 18: a new object, days and acts, what refuses them, what counts. */
public final class ActsTest {
    private static final int NONE = BoilerRoll.NONE;
    private static final int RANGE = BoilerRoll.RANGE;
    private static final int STATE = BoilerRoll.STATE;
    private static final int FULL = BoilerRoll.FULL;

    private static int wrong = 0;

    private static void due(String told, long got, long want) {
        if (got != want) {
            wrong++;
            System.out.println(told + " answered " + got + ", due is " + want);
        }
    }

    private static void due(String told, boolean got, boolean want) {
        due(told, got ? 1 : 0, want ? 1 : 0);
    }

    /** An answer, and what status() tells of it. */
    private static void told(BoilerRoll x, String told, int got, int want) {
        due(told, got, want);
        due("status() after " + told, x.status(), want < 0 ? want : 0);
    }

    /** Today is day 100; one vessel of day 50 with a shell (part 0) and tubes (part 1). */
    private static BoilerRoll begun() {
        BoilerRoll x = new BoilerRoll();
        x.pass(100);
        x.vessel(3, 4, 500, 50);
        x.part(0, 0, 4000, 10, 100, 1000);
        x.part(0, 2, 4000, 10, 100, 1000);
        return x;
    }

    private static void aNewObject() {
        BoilerRoll x = new BoilerRoll();
        for (int what = 0; what <= 4; what++) {
            due("1: count(" + what + ")", x.count(what, 0), 0);
        }
        due("1: count(5, 0)", x.count(5, 0), NONE);
        due("1: status()", x.status(), 0);
        due("1: entry(0, 0)", x.entry(0, 0), false);
        due("1: image()", x.image(), 0);
        due("1: end(0)", x.end(0), true);
        due("1: end(1)", x.end(1), false);
        due("1: listed(0, 0)", x.listed(0, 0), NONE);
        due("1: undo()", x.undo(), NONE);
        due("1: measure without a vessel", x.measure(0, 0, 0), NONE);
        BoilerRoll y = begun();
        due("1: measure without a sheet", y.measure(0, 0, 100), STATE);
        BoilerRoll z = new BoilerRoll();
        due("1: two objects share nothing", z.count(1, 0), 0);
        due("1: acts of day 0, without a pass()", z.vessel(0, 1, 0, 0), 0);
        due("1: they are taken back, too", z.undo(), 1);
    }

    private static void pass() {
        BoilerRoll x = new BoilerRoll();
        told(x, "2: pass(-1)", x.pass(-1), RANGE);
        told(x, "2: pass(0)", x.pass(0), 0);
        told(x, "2: pass(0) again", x.pass(0), 0);
        told(x, "2: pass(40001)", x.pass(40001), RANGE);
        told(x, "2: pass(100)", x.pass(100), 100);
        told(x, "2: pass(99)", x.pass(99), RANGE);
        due("2: today", x.count(0, 0), 100);
        due("2: passes", x.count(3, 0), 3);
        x.vessel(0, 1, 0, 100);
        told(x, "2: a refused pass()", x.pass(99), RANGE);
        told(x, "2: undo() behind a refused pass()", x.undo(), 1);
        x.vessel(0, 1, 0, 100);
        told(x, "2: pass(100)", x.pass(100), 100);
        told(x, "2: undo() behind a pass() of the same day", x.undo(), NONE);
        due("2: the vessel stands", x.count(1, 0), 1);
        told(x, "2: pass(40000)", x.pass(40000), 40000);
        told(x, "2: pass(40000) again", x.pass(40000), 40000);
    }

    private static void vessel() {
        BoilerRoll x = new BoilerRoll();
        x.pass(10);
        told(x, "3: least", x.vessel(0, 1, 0, 0), 0);
        told(x, "3: most", x.vessel(999, 20, 100000, 10), 1);
        told(x, "3: owner -1", x.vessel(-1, 1, 0, 0), RANGE);
        told(x, "3: owner 1000", x.vessel(1000, 1, 0, 0), RANGE);
        told(x, "3: safety 0", x.vessel(0, 0, 0, 0), RANGE);
        told(x, "3: safety 21", x.vessel(0, 21, 0, 0), RANGE);
        told(x, "3: makes -1", x.vessel(0, 1, -1, 0), RANGE);
        told(x, "3: makes 100001", x.vessel(0, 1, 100001, 0), RANGE);
        told(x, "3: day -1", x.vessel(0, 1, 0, -1), RANGE);
        told(x, "3: day 11", x.vessel(0, 1, 0, 11), RANGE);
        due("3: vessels", x.count(1, 0), 2);
        for (int v = 2; v < 30; v++) {
            told(x, "3: vessel " + v, x.vessel(v, 1, 0, 0), v);
        }
        told(x, "3: a wrong 31st", x.vessel(0, 0, 0, 0), RANGE);
        told(x, "3: a 31st", x.vessel(0, 1, 0, 0), FULL);
        due("3: vessels, all", x.count(1, 0), 30);
        due("3: no vessel 30", x.why(30, 10, 10), NONE);
        due("3: vessel 29", x.holds(29, 5, 10, 10), 29);
    }

    private static void part() {
        BoilerRoll x = new BoilerRoll();
        x.pass(10);
        told(x, "4: no vessel", x.part(0, 9, 0, 0, 0, 0), NONE);
        x.vessel(0, 1, 0, 0);
        told(x, "4: vessel -1", x.part(-1, 0, 1, 1, 1, 1), NONE);
        told(x, "4: least", x.part(0, 0, 1, 1, 1, 1), 0);
        told(x, "4: most", x.part(0, 4, 100000, 100000, 10000, 1000), 1);
        told(x, "4: kind -1", x.part(0, -1, 1, 1, 1, 1), RANGE);
        told(x, "4: kind 5", x.part(0, 5, 1, 1, 1, 1), RANGE);
        told(x, "4: strength 0", x.part(0, 0, 0, 1, 1, 1), RANGE);
        told(x, "4: strength 100001", x.part(0, 0, 100001, 1, 1, 1), RANGE);
        told(x, "4: radius 0", x.part(0, 0, 1, 0, 1, 1), RANGE);
        told(x, "4: radius 100001", x.part(0, 0, 1, 100001, 1, 1), RANGE);
        told(x, "4: thickness 0", x.part(0, 0, 1, 1, 0, 1), RANGE);
        told(x, "4: thickness 10001", x.part(0, 0, 1, 1, 10001, 1), RANGE);
        told(x, "4: share 0", x.part(0, 0, 1, 1, 1, 0), RANGE);
        told(x, "4: share 1001", x.part(0, 0, 1, 1, 1, 1001), RANGE);
        due("4: parts", x.count(5, 0), 2);
        for (int p = 2; p < 24; p++) {
            told(x, "4: part " + p, x.part(0, 0, 1, 1, 1, 1), p);
        }
        told(x, "4: a wrong 25th", x.part(0, 5, 1, 1, 1, 1), RANGE);
        told(x, "4: a 25th", x.part(0, 0, 1, 1, 1, 1), FULL);
        x.vessel(0, 1, 0, 0);
        told(x, "4: of another vessel", x.part(1, 0, 1, 1, 1, 1), 0);
        due("4: part 23 is there", x.thick(0, 23, 0, 10, 10), 1);
        due("4: no part 24", x.thick(0, 24, 0, 10, 10), NONE);
    }

    private static void shape() {
        BoilerRoll x = begun();
        told(x, "5: no vessel", x.shape(1, 0, 1, 0, 1), NONE);
        told(x, "5: no part", x.shape(0, 2, 0, 0, 1), NONE);
        told(x, "5: part -1", x.shape(0, -1, 1, 0, 1), NONE);
        told(x, "5: least", x.shape(0, 0, 1, 0, 1), 1);
        told(x, "5: most", x.shape(0, 0, 12, 1000, 1), 12);
        told(x, "5: of tubes", x.shape(0, 1, 2, 0, 500), 2);
        told(x, "5: spots 0", x.shape(0, 0, 0, 0, 1), RANGE);
        told(x, "5: spots 13", x.shape(0, 0, 13, 0, 1), RANGE);
        told(x, "5: wear -1", x.shape(0, 0, 1, -1, 1), RANGE);
        told(x, "5: wear 1001", x.shape(0, 0, 1, 1001, 1), RANGE);
        told(x, "5: many 0", x.shape(0, 0, 1, 0, 0), RANGE);
        told(x, "5: many 2 of a shell", x.shape(0, 0, 1, 0, 2), RANGE);
        told(x, "5: many 501 of tubes", x.shape(0, 1, 1, 0, 501), RANGE);
        told(x, "5: many 0 of tubes", x.shape(0, 1, 1, 0, 0), RANGE);
        due("5: the last shape holds", x.thick(0, 0, 11, 50, 100), 100);
        due("5: tubes", x.holds(0, 3, 100, 100), 500);
        x.valve(0, 1, 1, 100);
        x.paper(0, 4, 0, 0, 100);
        told(x, "5: acts of the vessel, not of the part", x.shape(0, 0, 3, 0, 1), 3);
        x.sheet(2, 0);
        x.measure(0, 0, 100);
        told(x, "5: behind a measure, a wrong one", x.shape(0, 0, 13, 0, 1), RANGE);
        told(x, "5: behind a measure", x.shape(0, 0, 3, 0, 1), STATE);
        told(x, "5: of another part", x.shape(0, 1, 3, 0, 1), 3);
        x.undo();
        x.undo();
        told(x, "5: behind a measure that went", x.shape(0, 0, 4, 0, 1), 4);
        due("5: the shape of tubes that went", x.holds(0, 3, 100, 100), 500);
        x.patch(0, 0, 1, 1, 1, 100);
        told(x, "5: behind a patch", x.shape(0, 0, 3, 0, 1), STATE);
        x.undo();
        x.plate(0, 0, 1, 100);
        told(x, "5: behind a plate", x.shape(0, 0, 3, 0, 1), STATE);
        x.plug(0, 1, 0, 100);
        told(x, "5: behind a plug", x.shape(0, 1, 3, 0, 1), STATE);
    }

    private static void sheet() {
        BoilerRoll x = begun();
        told(x, "6: shorts", x.sheet(0, 2), 2);
        told(x, "6: another kind", x.sheet(3, 1), RANGE);
        told(x, "6: kind -1", x.sheet(-1, 1), RANGE);
        told(x, "6: another kind, n below 0", x.sheet(3, -1), RANGE);
        told(x, "6: n 41 of shorts", x.sheet(0, 41), RANGE);
        told(x, "6: n 41 of floats", x.sheet(1, 41), RANGE);
        told(x, "6: n 41 of a missing one", x.sheet(2, 41), RANGE);
        told(x, "6: n -1 of shorts", x.sheet(0, -1), STATE);
        told(x, "6: n least of floats", x.sheet(1, Integer.MIN_VALUE), STATE);
        due("6: the sheet stays, entry 1", x.entry(1, 5), true);
        due("6: the sheet stays, entry 2", x.entry(2, 5), false);
        told(x, "6: n 40", x.sheet(1, 40), 40);
        due("6: entry 39", x.entry(39, 5), true);
        told(x, "6: n 0", x.sheet(0, 0), 0);
        due("6: none of n 0", x.entry(0, 5), false);
        told(x, "6: an empty sheet is filed", x.measure(0, 0, 100), 0);
        x.sheet(0, 3);
        told(x, "6: a missing one in place of it", x.sheet(2, 3), 0);
        due("6: it has no entries", x.entry(0, 5), false);
        told(x, "6: a missing one with n below 0", x.sheet(2, -1), 0);
        told(x, "6: it is filed", x.measure(0, 0, 100), 0);
        x.sheet(0, 2);
        x.entry(0, 77);
        x.sheet(0, 2);
        told(x, "6: a new sheet", x.measure(0, 0, 100), 1);
        due("6: it is all 0", x.thick(0, 0, 0, 100, 100), 0);
    }

    private static int tenths(int kind, int v) {
        BoilerRoll x = begun();
        x.sheet(kind, 1);
        due("7: entry(0, " + v + ")", x.entry(0, v), true);
        int answer = x.measure(0, 0, 100);
        return answer == 1 ? x.thick(0, 0, 0, 100, 100) : answer;
    }

    private static int ofFloat(float f) {
        return tenths(1, Float.floatToRawIntBits(f));
    }

    private static void entry() {
        BoilerRoll x = begun();
        due("7: no sheet", x.entry(0, 1), false);
        x.pass(5);
        due("7: no entry(), no status()", x.status(), RANGE);
        x.sheet(0, 2);
        due("7: entry -1", x.entry(-1, 1), false);
        due("7: entry 2", x.entry(2, 1), false);
        due("7: entry 1", x.entry(1, 1), true);
        due("7: the greatest", x.entry(Integer.MAX_VALUE, 1), false);
        due("7: status() is not touched", x.status(), 0);
        due("7: a short", tenths(0, 85), 85);
        due("7: a short of more bits", tenths(0, 0x7FFF0055), 0x55);
        due("7: a short of 10000", tenths(0, 10000), 10000);
        due("7: a short of 10001", tenths(0, 10001), RANGE);
        due("7: a short of -1", tenths(0, 65535), RANGE);
        due("7: a short of -32768", tenths(0, 32768), RANGE);
        due("7: a short that is 0 by its bits", tenths(0, 65536), 0);
        due("7: a float", ofFloat(9.5f), 95);
        due("7: a float, cut", ofFloat(9.59f), 95);
        due("7: a float of 0.1", ofFloat(0.1f), 1);
        due("7: a float of 0.3", ofFloat(0.3f), 3);
        due("7: a float just below 0.1", ofFloat(Math.nextDown(0.1f)), (int) (10f * Math.nextDown(0.1f)));
        due("7: ten times, rounded as a float", ofFloat(0.7f), 7);
        due("7: a float of 1000", ofFloat(1000f), 10000);
        due("7: a float of 1000.06", ofFloat(1000.06f), 10000);
        due("7: a float of 1000.2", ofFloat(1000.2f), RANGE);
        due("7: a float of -0", ofFloat(-0f), 0);
        due("7: a float of -0.09", ofFloat(-0.09f), 0);
        due("7: a float of -0.1", ofFloat(-0.1f), RANGE);
        due("7: the least float", ofFloat(Float.MIN_VALUE), 0);
        due("7: the greatest float", ofFloat(Float.MAX_VALUE), RANGE);
        due("7: no end", ofFloat(Float.POSITIVE_INFINITY), RANGE);
        due("7: no end below", ofFloat(Float.NEGATIVE_INFINITY), RANGE);
        due("7: no number, not measured", tenths(1, 0x7FC00000), 0);
        due("7: another no number", tenths(1, 0xFF800001), 0);
        for (int i = 0; i <= 10000; i += 7) {
            float f = i / 10f;
            due("7: a float of " + f, ofFloat(f), (int) (10f * f));
            due("7: a float below " + f, i == 0 ? 0 : ofFloat(Math.nextDown(f)), (int) (10f * Math.nextDown(f)));
        }
    }

    private static void measure() {
        BoilerRoll x = begun();
        x.shape(0, 0, 3, 0, 1);
        told(x, "8: no vessel, no sheet", x.measure(1, 0, 100), NONE);
        told(x, "8: no part, no sheet", x.measure(0, 2, 100), NONE);
        told(x, "8: no sheet, a wrong day", x.measure(0, 0, 101), STATE);
        x.sheet(0, 5);
        x.entry(0, 90);
        x.entry(1, 80);
        x.entry(2, 10001);
        x.entry(3, -5);
        told(x, "8: no part, a sheet", x.measure(0, 2, 100), NONE);
        told(x, "8: behind today", x.measure(0, 0, 101), RANGE);
        told(x, "8: ahead of built", x.measure(0, 0, 49), RANGE);
        told(x, "8: a spot out of range", x.measure(0, 0, 50), RANGE);
        due("8: refused, the sheet stays", x.entry(2, 70), true);
        due("8: nothing was entered", x.count(2, 0), 4);
        told(x, "8: what is behind the spots is not asked", x.measure(0, 0, 50), 3);
        due("8: spot 0", x.thick(0, 0, 0, 50, 100), 90);
        due("8: spot 1", x.thick(0, 0, 1, 50, 100), 80);
        due("8: spot 2", x.thick(0, 0, 2, 50, 100), 70);
        due("8: the sheet is gone", x.entry(0, 1), false);
        told(x, "8: no sheet any more", x.measure(0, 0, 50), STATE);
        x.sheet(0, 1);
        x.entry(0, 60);
        told(x, "8: one spot alone", x.measure(0, 0, 100), 1);
        due("8: the others stay", x.thick(0, 0, 2, 100, 100), 70);
        x.undo();
        due("8: an act that went does not bring the sheet", x.entry(0, 1), false);
        x.sheet(1, 3);
        x.entry(0, 0x7FC00000);
        x.entry(1, 0x7FC00000);
        x.entry(2, Float.floatToRawIntBits(5.5f));
        told(x, "8: of three two are no number", x.measure(0, 0, 100), 1);
        due("8: spot 2 of it", x.thick(0, 0, 2, 100, 100), 55);
        x.sheet(2, 0);
        told(x, "8: a missing one", x.measure(0, 0, 100), 0);
        told(x, "8: also of nothing the sheet is gone", x.measure(0, 0, 100), STATE);
        due("8: it is an act", x.count(2, 0), 7);
        due("8: its code", x.undo(), 4);
    }

    private static void mends() {
        BoilerRoll x = begun();
        told(x, "9: no vessel", x.patch(1, 0, 0, 1, 1, 100), NONE);
        told(x, "9: no part", x.patch(0, 2, 0, 1, 1, 100), NONE);
        told(x, "9: strength 0", x.patch(0, 0, 0, 1, 1, 100), RANGE);
        told(x, "9: strength 100001", x.patch(0, 0, 100001, 1, 1, 100), RANGE);
        told(x, "9: thickness 0", x.patch(0, 0, 1, 0, 1, 100), RANGE);
        told(x, "9: thickness 10001", x.patch(0, 0, 1, 10001, 1, 100), RANGE);
        told(x, "9: share 0", x.patch(0, 0, 1, 1, 0, 100), RANGE);
        told(x, "9: share 1001", x.patch(0, 0, 1, 1, 1001, 100), RANGE);
        told(x, "9: ahead of built", x.patch(0, 0, 1, 1, 1, 49), RANGE);
        told(x, "9: behind today", x.patch(0, 0, 1, 1, 1, 101), RANGE);
        told(x, "9: least", x.patch(0, 0, 1, 1, 1, 50), 1);
        told(x, "9: most", x.patch(0, 1, 100000, 10000, 1000, 100), 1);
        told(x, "10: no vessel", x.plate(1, 0, 0, 100), NONE);
        told(x, "10: no part", x.plate(0, 2, 1, 100), NONE);
        told(x, "10: thickness 0", x.plate(0, 0, 0, 100), RANGE);
        told(x, "10: thickness 10001", x.plate(0, 0, 10001, 100), RANGE);
        told(x, "10: ahead of built", x.plate(0, 0, 1, 49), RANGE);
        told(x, "10: behind today", x.plate(0, 0, 1, 101), RANGE);
        told(x, "10: of the day built", x.plate(0, 0, 10000, 50), 1);
        due("10: it is in place of the first", x.thick(0, 0, 0, 50, 100), 10000);
        told(x, "11: no vessel", x.plug(1, 1, 0, 100), NONE);
        told(x, "11: no part", x.plug(0, 2, 0, 100), NONE);
        told(x, "11: a shell", x.plug(0, 0, 0, 100), NONE);
        told(x, "11: n -1", x.plug(0, 1, -1, 100), RANGE);
        told(x, "11: n 2 of 1", x.plug(0, 1, 2, 100), RANGE);
        told(x, "11: n 1 of 1", x.plug(0, 1, 1, 100), 1);
        told(x, "11: n 0", x.plug(0, 1, 0, 100), 0);
        told(x, "11: ahead of built", x.plug(0, 1, 0, 49), RANGE);
        told(x, "11: behind today", x.plug(0, 1, 0, 101), RANGE);
    }

    private static void valves() {
        BoilerRoll x = begun();
        told(x, "12: no vessel", x.valve(1, 0, 1, 100), NONE);
        told(x, "12: setting 0", x.valve(0, 0, 1, 100), RANGE);
        told(x, "12: setting 10001", x.valve(0, 10001, 1, 100), RANGE);
        told(x, "12: passes 0", x.valve(0, 1, 0, 100), RANGE);
        told(x, "12: passes 100001", x.valve(0, 1, 100001, 100), RANGE);
        told(x, "12: ahead of built", x.valve(0, 1, 1, 49), RANGE);
        told(x, "12: behind today", x.valve(0, 1, 1, 101), RANGE);
        told(x, "12: least", x.valve(0, 1, 1, 50), 0);
        told(x, "12: most", x.valve(0, 10000, 100000, 100), 1);
        told(x, "13: no vessel", x.set(1, 0, 0, 100), NONE);
        told(x, "13: no valve", x.set(0, 2, 0, 100), NONE);
        told(x, "13: valve -1", x.set(0, -1, 1, 100), NONE);
        told(x, "13: setting 0", x.set(0, 0, 0, 100), RANGE);
        told(x, "13: setting 10001", x.set(0, 0, 10001, 100), RANGE);
        told(x, "13: behind today", x.set(0, 0, 1, 101), RANGE);
        told(x, "13: ahead of the valve", x.set(0, 1, 1, 99), RANGE);
        told(x, "13: of the valve's day", x.set(0, 1, 4, 100), 4);
        told(x, "13: ahead of built", x.set(0, 0, 1, 49), RANGE);
        told(x, "13: of the day built", x.set(0, 0, 10000, 50), 10000);
        for (int i = 2; i < 6; i++) {
            told(x, "12: valve " + i, x.valve(0, 5, 5, 100), i);
        }
        told(x, "12: a wrong 7th", x.valve(0, 5, 0, 100), RANGE);
        told(x, "12: a 7th", x.valve(0, 5, 5, 100), FULL);
        due("12: valves", x.count(6, 0), 6);
    }

    private static void papersAndRules() {
        BoilerRoll x = begun();
        told(x, "14: no vessel", x.paper(1, 9, 0, 0, 100), NONE);
        told(x, "14: kind -1", x.paper(0, -1, 0, 0, 100), RANGE);
        told(x, "14: kind 6", x.paper(0, 6, 0, 0, 100), RANGE);
        told(x, "14: who -1", x.paper(0, 0, -1, 0, 100), RANGE);
        told(x, "14: who 1000", x.paper(0, 0, 1000, 0, 100), RANGE);
        told(x, "14: found -1", x.paper(0, 0, 0, -1, 100), RANGE);
        told(x, "14: found 10000", x.paper(0, 0, 0, 10000, 100), RANGE);
        told(x, "14: ahead of built", x.paper(0, 0, 0, 0, 49), RANGE);
        told(x, "14: behind today", x.paper(0, 0, 0, 0, 101), RANGE);
        told(x, "14: first", x.paper(0, 0, 0, 0, 50), 1);
        told(x, "14: second", x.paper(0, 5, 999, 9999, 100), 2);
        x.vessel(0, 1, 0, 100);
        told(x, "14: first of another vessel", x.paper(1, 3, 0, 0, 100), 1);
        told(x, "14: third", x.paper(0, 4, 0, 0, 100), 3);
        told(x, "15: kind -1", x.rule(-1, 1, 1), RANGE);
        told(x, "15: kind 3", x.rule(3, 1, 1), RANGE);
        told(x, "15: young 0", x.rule(0, 0, 1), RANGE);
        told(x, "15: young 4001", x.rule(0, 4001, 1), RANGE);
        told(x, "15: old 0", x.rule(0, 1, 0), RANGE);
        told(x, "15: old 4001", x.rule(0, 1, 4001), RANGE);
        told(x, "15: first", x.rule(0, 1, 4000), 1);
        told(x, "15: second, of another kind", x.rule(2, 4000, 1), 2);
        due("15: rules", x.count(4, 0), 2);
        due("15: undo()", x.undo(), 11);
        told(x, "15: second again", x.rule(1, 5, 5), 2);
    }

    private static void undo() {
        BoilerRoll x = new BoilerRoll();
        x.pass(10);
        x.vessel(1, 1, 1, 10);
        x.part(0, 2, 10, 10, 10, 10);
        x.shape(0, 0, 2, 0, 5);
        x.sheet(2, 0);
        x.measure(0, 0, 10);
        x.patch(0, 0, 1, 1, 1, 10);
        x.plate(0, 0, 1, 10);
        x.plug(0, 0, 1, 10);
        x.valve(0, 1, 1, 10);
        x.set(0, 0, 2, 10);
        x.paper(0, 0, 0, 0, 10);
        x.rule(0, 1, 1);
        due("16: acts", x.count(2, 0), 11);
        for (int code = 11; code >= 1; code--) {
            told(x, "16: undo() of code " + code, x.undo(), code);
            due("16: acts that stand", x.count(2, 0), code - 1);
        }
        told(x, "16: nothing is left", x.undo(), NONE);
        due("16: today stays", x.count(0, 0), 10);
        due("16: vessels", x.count(1, 0), 0);
        due("16: rules", x.count(4, 0), 0);
        told(x, "16: a number given again", x.vessel(2, 1, 1, 10), 0);
        due("16: no part of the vessel that went", x.count(5, 0), 0);
        due("16: no valve of it", x.count(6, 0), 0);
        due("16: no paper of it", x.count(7, 0), 0);
        told(x, "16: a part's number", x.part(0, 0, 1, 1, 1, 1), 0);
        told(x, "16: a part of another kind", x.plug(0, 0, 0, 10), NONE);
        told(x, "16: its shape is the first", x.shape(0, 0, 1, 0, 2), RANGE);
        x.undo();
        told(x, "16: tubes in place of tubes of many", x.part(0, 2, 1, 1, 1, 1), 0);
        told(x, "16: they are 1", x.plug(0, 0, 2, 10), RANGE);
        x.sheet(0, 2);
        told(x, "16: of one spot", x.measure(0, 0, 10), 1);
        x.undo();
        told(x, "16: a valve's number", x.valve(0, 9, 9, 10), 0);
        x.pass(11);
        x.valve(0, 9, 9, 10);
        due("16: since the pass()", x.undo(), 8);
        told(x, "16: ahead of the pass()", x.undo(), NONE);
        due("16: one valve stands", x.count(6, 0), 1);
        x.vessel(1, 1, 1, 11);
        due("16: two vessels", x.count(1, 0), 2);
        x.pass(11);
        told(x, "16: behind a pass() of the same day", x.undo(), NONE);
    }

    private static void statusAndCount() {
        BoilerRoll x = begun();
        x.pass(1);
        due("17: refused", x.status(), RANGE);
        x.why(9, 9, 9);
        x.count(9, 9);
        x.feed(1, 2, 3, 4, 5);
        x.restore();
        x.list(0, 0);
        x.entry(0, 0);
        x.end(77);
        due("17: what is told below leaves it", x.status(), RANGE);
        x.sheet(0, -1);
        due("17: of sheet()", x.status(), STATE);
        x.sheet(0, 1);
        due("17: accepted", x.status(), 0);
        x.pass(100);
        due("18: today", x.count(0, -5), 100);
        due("18: vessels", x.count(1, 99), 1);
        due("18: acts", x.count(2, 99), 3);
        due("18: passes", x.count(3, 99), 2);
        due("18: rules", x.count(4, 99), 0);
        due("18: parts", x.count(5, 0), 2);
        due("18: valves", x.count(6, 0), 0);
        due("18: papers", x.count(7, 0), 0);
        for (int what = 5; what <= 7; what++) {
            due("18: of no vessel", x.count(what, 1), NONE);
            due("18: of vessel -1", x.count(what, -1), NONE);
        }
        due("18: what 8", x.count(8, 0), NONE);
        due("18: what -1", x.count(-1, 0), NONE);
    }

    public static void main(String[] args) {
        aNewObject();
        pass();
        vessel();
        part();
        shape();
        sheet();
        entry();
        measure();
        mends();
        valves();
        papersAndRules();
        undo();
        statusAndCount();
        System.out.println(wrong == 0 ? "all answers are as due" : wrong + " answers are not as due");
        if (wrong != 0) {
            System.exit(1);
        }
    }
}
