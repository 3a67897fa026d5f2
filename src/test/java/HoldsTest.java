/** Promises 19 to 31: what holds on a day, as known on a day. */
public final class HoldsTest {
    private static final int NONE = BoilerRoll.NONE;
    private static final int LAST = 40000;

    private static int wrong = 0;

    private static void due(String told, long got, long want) {
        if (got != want) {
            wrong++;
            System.out.println(told + " answered " + got + ", due is " + want);
        }
    }

    private static void file(BoilerRoll x, int v, int p, int day, int... tenths) {
        x.sheet(0, tenths.length);
        for (int i = 0; i < tenths.length; i++) {
            x.entry(i, tenths[i]);
        }
        due("8: measure of day " + day, x.measure(v, p, day), tenths.length);
    }

    /** Today is 1000; vessel 0 of that day with a shell that bears 10000, and a valve. It may be fired at 8000. */
    private static BoilerRoll fired() {
        BoilerRoll x = new BoilerRoll();
        x.pass(1000);
        x.vessel(7, 2, 500, 1000);
        x.part(0, 0, 2000, 10, 100, 1000);
        x.valve(0, 8000, 500, 1000);
        return x;
    }

    private static void thick() {
        BoilerRoll x = new BoilerRoll();
        x.pass(100);
        x.vessel(1, 1, 0, 100);
        x.part(0, 0, 1000, 10, 500, 1000);
        x.pass(500);
        x.shape(0, 0, 2, 73, 1);
        due("19: without wear, as known", x.thick(0, 0, 0, 465, 499), 500);
        due("19: spot 1 is not known", x.thick(0, 0, 1, 465, 499), NONE);
        due("19: 365 days of wear", x.thick(0, 0, 0, 465, 500), 427);
        due("19: a part of a tenth is cut", x.thick(0, 0, 0, 101, 500), 499);
        due("19: five days, a whole tenth", x.thick(0, 0, 0, 105, 500), 499);
        due("19: six days", x.thick(0, 0, 0, 106, 500), 498);
        due("19: 0 at least", x.thick(0, 0, 0, LAST, 500), 0);
        due("19: its last tenth", x.thick(0, 0, 0, 2599, 500), 0);
        due("19: ahead of it", x.thick(0, 0, 0, 2595, 500), 1);
        due("19: no vessel", x.thick(1, 0, 0, 500, 500), NONE);
        due("19: vessel -1", x.thick(-1, 0, 0, 500, 500), NONE);
        due("19: no part", x.thick(0, 1, 0, 500, 500), NONE);
        due("19: part -1", x.thick(0, -1, 0, 500, 500), NONE);
        due("19: no spot", x.thick(0, 0, 2, 500, 500), NONE);
        due("19: spot -1", x.thick(0, 0, -1, 500, 500), NONE);
        due("19: day ahead of built", x.thick(0, 0, 0, 99, 500), NONE);
        due("19: day 40001", x.thick(0, 0, 0, LAST + 1, 500), NONE);
        due("19: known 40001", x.thick(0, 0, 0, 500, LAST + 1), NONE);
        due("19: known -1", x.thick(0, 0, 0, 500, -1), NONE);
        due("19: not known", x.thick(0, 0, 0, 500, 99), NONE);
        file(x, 0, 0, 300, 400);
        due("19: a measure, steeper than the wear", x.thick(0, 0, 0, 400, 500), 350);
        due("19: ahead of it", x.thick(0, 0, 0, 299, 500), 460);
        due("19: spot 1 was not measured", x.thick(0, 0, 1, 400, 500), 440);
        file(x, 0, 0, 200, 480);
        due("19: one between, entered behind", x.thick(0, 0, 0, 400, 500), 320);
        file(x, 0, 0, 300, 470);
        due("19: of one day the last", x.thick(0, 0, 0, 400, 500), 450);
        file(x, 0, 0, 100, 490);
        due("19: in place of the plate", x.thick(0, 0, 0, 100, 500), 490);
        due("19: the first is what is ahead of the second", x.thick(0, 0, 0, 290, 500), 462);
        file(x, 0, 0, 400, 480);
        due("19: grown: by the wear alone", x.thick(0, 0, 0, 405, 500), 479);
        due("20: the grown one is in doubt", x.doubts(0, 0, 405, 500), 1);
        due("20: not ahead of it", x.doubts(0, 0, 399, 500), 0);
        file(x, 0, 0, 400, 470, 510);
        due("20: as thick is no doubt, the other is", x.doubts(0, 0, 400, 500), 1);
        file(x, 0, 0, 400, 471, 510);
        due("20: both", x.doubts(0, 0, 400, 500), 2);
        due("20: no part", x.doubts(0, 1, 400, 500), NONE);
        due("20: no vessel", x.doubts(1, 0, 400, 500), NONE);
        due("20: ahead of built", x.doubts(0, 0, 99, 500), NONE);
        due("20: not known", x.doubts(0, 0, 400, 99), NONE);
        due("20: day 40001", x.doubts(0, 0, LAST + 1, 500), NONE);
        due("20: known -1", x.doubts(0, 0, 400, -1), NONE);
        BoilerRoll y = new BoilerRoll();
        y.pass(10);
        y.vessel(1, 1, 0, 0);
        y.part(0, 0, 1000, 10, 100, 1000);
        file(y, 0, 0, 2, 99);
        due("19: half a tenth a day, cut down", y.thick(0, 0, 0, 3, 10), 98);
        due("19: two days", y.thick(0, 0, 0, 4, 10), 98);
        due("19: three days", y.thick(0, 0, 0, 5, 10), 97);
    }

    private static void plates() {
        BoilerRoll x = new BoilerRoll();
        x.pass(0);
        x.vessel(1, 1, 0, 0);
        x.part(0, 0, 1000, 10, 100, 1000);
        x.pass(300);
        file(x, 0, 0, 100, 90);
        x.plate(0, 0, 200, 100);
        due("19: a measure of the plate's day, entered ahead of it", x.thick(0, 0, 0, 100, 300), 200);
        file(x, 0, 0, 100, 190);
        due("19: and one entered behind it", x.thick(0, 0, 0, 100, 300), 190);
        due("20: the plate is not ahead of it", x.doubts(0, 0, 100, 300), 0);
        file(x, 0, 0, 200, 195);
        due("20: the measure in its place is", x.doubts(0, 0, 200, 300), 1);
        x.plate(0, 0, 150, 150);
        due("19: a plate between, entered behind: the later measure counts", x.thick(0, 0, 0, 200, 300), 195);
        due("19: on the plate's day it is the end", x.thick(0, 0, 0, 150, 300), 150);
        due("20: against the new plate", x.doubts(0, 0, 200, 300), 1);
        x.plate(0, 0, 170, 250);
        x.plate(0, 0, 160, 250);
        x.plate(0, 0, 300, 240);
        due("19: of one day the last plate", x.thick(0, 0, 0, 300, 300), 160);
        due("19: the day ahead", x.thick(0, 0, 0, 249, 300), 300);
        due("19: as known ahead of all", x.thick(0, 0, 0, 300, 299), 100);
    }

    private static BoilerRoll kinds() {
        BoilerRoll x = new BoilerRoll();
        x.pass(10);
        x.vessel(1, 3, 0, 10);
        x.part(0, 0, 1234, 77, 999, 901);
        x.part(0, 1, 1234, 77, 999, 901);
        x.part(0, 2, 1234, 77, 999, 901);
        x.part(0, 3, 1234, 77, 999, 901);
        x.part(0, 4, 1234, 77, 999, 901);
        return x;
    }

    private static void bears() {
        // 1234 * 999 * 901 = 1110722166; 1000 * 77 * 3 = 231000
        BoilerRoll x = kinds();
        due("21: shell", x.bears(0, 0, 10, 10), 4808);
        due("21: end", x.bears(0, 1, 10, 10), 2404);
        due("21: tubes", x.bears(0, 2, 10, 10), 4808);
        due("21: door", x.bears(0, 3, 10, 10), 2163);
        due("21: seam", x.bears(0, 4, 10, 10), 4808);
        due("22: weakest", x.weakest(0, 10, 10), 3);
        due("21: no part", x.bears(0, 5, 10, 10), NONE);
        due("21: no vessel", x.bears(1, 0, 10, 10), NONE);
        due("21: ahead of built", x.bears(0, 0, 9, 10), NONE);
        due("21: not known", x.bears(0, 0, 10, 9), NONE);
        due("21: known -1", x.bears(0, 0, 10, -1), NONE);
        due("21: day 40001", x.bears(0, 0, LAST + 1, 10), NONE);
        x.part(0, 0, 100000, 1, 10000, 1000);
        x.vessel(1, 1, 0, 10);
        due("22: without parts", x.weakest(1, 10, 10), NONE);
        x.part(1, 0, 100000, 1, 10000, 1000);
        due("21: the greatest", x.bears(1, 0, 10, 10), 1000000000);
        x.part(1, 0, 1, 100000, 1, 1);
        due("21: the least", x.bears(1, 1, 10, 10), 0);
        x.part(1, 0, 1, 100000, 1, 1);
        due("22: the first of two", x.weakest(1, 10, 10), 1);
        due("22: as known", x.weakest(1, 10, 9), NONE);
        due("22: ahead of built", x.weakest(0, 9, 10), NONE);
        due("22: no vessel", x.weakest(2, 10, 10), NONE);
        due("22: day -1", x.weakest(0, -1, 10), NONE);
        BoilerRoll y = kinds();
        y.shape(0, 0, 3, 0, 1);
        file(y, 0, 0, 10, 900, 10, 800);
        due("21: by the least thick spot", y.bears(0, 0, 10, 10), 1234L * 10 * 901 / 231000);
    }

    private static void patches() {
        BoilerRoll x = kinds();
        x.pass(20);
        x.patch(0, 1, 1000, 700, 900, 12);
        due("21: no more than the patch", x.bears(0, 1, 12, 20), 2181);
        due("21: ahead of it", x.bears(0, 1, 11, 20), 2404);
        due("21: not known then", x.bears(0, 1, 12, 19), 2404);
        x.patch(0, 1, 10000, 700, 900, 13);
        due("21: a strong patch does not strengthen", x.bears(0, 1, 13, 20), 2404);
        due("21: the first one on its days", x.bears(0, 1, 12, 20), 2181);
        x.patch(0, 1, 1, 1, 1, 12);
        due("21: of one day the last", x.bears(0, 1, 12, 20), 0);
        due("21: a later day is the last", x.bears(0, 1, 13, 20), 2404);
        x.plate(0, 1, 999, 12);
        due("21: a plate behind the patch of its day", x.bears(0, 1, 12, 20), 2404);
        x.patch(0, 1, 1, 1, 1, 12);
        due("21: a patch behind the plate of its day", x.bears(0, 1, 12, 20), 0);
        x.plug(0, 2, 1, 15);
        due("21: all tubes plugged", x.bears(0, 2, 15, 20), 1000000);
        due("21: ahead of that", x.bears(0, 2, 14, 20), 4808);
        x.patch(0, 2, 1, 1, 1, 15);
        due("21: also behind a patch", x.bears(0, 2, 15, 20), 1000000);
        x.plug(0, 2, 0, 16);
        due("21: none plugged, the patch binds", x.bears(0, 2, 16, 20), 0);
        x.plug(0, 2, 1, 14);
        due("21: the last plug is of the greatest day", x.bears(0, 2, 16, 20), 0);
        due("21: an earlier day", x.bears(0, 2, 14, 20), 1000000);
        x.plug(0, 2, 0, 14);
        due("21: of one day the last plug", x.bears(0, 2, 14, 20), 4808);
        x.plate(0, 3, 999, 15);
        x.patch(0, 3, 1, 1, 1, 13);
        due("21: a patch ahead of the plate, entered behind it", x.bears(0, 3, 15, 20), 2163);
        due("21: on its days", x.bears(0, 3, 14, 20), 0);
        x.patch(0, 4, 1, 1, 1, 15);
        x.plate(0, 4, 999, 13);
        due("21: a plate ahead of the patch, entered behind it", x.bears(0, 4, 15, 20), 0);
        due("21: ahead of the patch", x.bears(0, 4, 14, 20), 4808);
    }

    private static void holds() {
        BoilerRoll x = new BoilerRoll();
        x.pass(10);
        x.vessel(9, 1, 0, 10);
        for (int what = 0; what < 6; what++) {
            due("23: bare, what " + what, x.holds(0, what, 10, 10), what < 2 ? NONE : what == 5 ? 9 : 0);
        }
        x.part(0, 2, 1, 1, 1, 1);
        x.part(0, 2, 1, 1, 1, 1);
        x.part(0, 0, 1, 1, 1, 1);
        x.shape(0, 1, 1, 0, 30);
        x.pass(20);
        x.valve(0, 50, 100, 15);
        x.valve(0, 70, 200, 12);
        x.valve(0, 60, 300, 12);
        due("23: greatest", x.holds(0, 0, 20, 20), 70);
        due("23: least", x.holds(0, 1, 20, 20), 50);
        due("23: least ahead of valve 0", x.holds(0, 1, 14, 20), 60);
        due("23: passes", x.holds(0, 2, 20, 20), 600);
        due("23: passes ahead of valve 0", x.holds(0, 2, 14, 20), 500);
        due("23: no valves then", x.holds(0, 0, 11, 20), NONE);
        due("23: none known", x.holds(0, 1, 20, 19), NONE);
        x.set(0, 1, 40, 18);
        due("23: set", x.holds(0, 0, 18, 20), 60);
        due("23: least by set", x.holds(0, 1, 18, 20), 40);
        due("23: ahead of set", x.holds(0, 0, 17, 20), 70);
        x.set(0, 1, 90, 16);
        due("23: a set of an earlier day", x.holds(0, 0, 18, 20), 60);
        due("23: on its days", x.holds(0, 0, 17, 20), 90);
        x.set(0, 1, 80, 18);
        due("23: of one day the last", x.holds(0, 0, 18, 20), 80);
        x.set(0, 0, 65, 15);
        due("23: a set of the valve's day", x.holds(0, 1, 15, 20), 60);
        x.set(0, 2, 30, 13);
        due("23: a set behind a valve that is not there yet", x.holds(0, 1, 13, 20), 30);
        due("23: it touches no other", x.holds(0, 0, 13, 20), 70);
        due("23: ahead of it", x.holds(0, 1, 12, 20), 60);
        x.undo();
        due("23: tubes", x.holds(0, 3, 10, 10), 31);
        x.plug(0, 1, 7, 13);
        x.plug(0, 0, 1, 12);
        x.plug(0, 1, 5, 12);
        due("23: plugged", x.holds(0, 4, 13, 20), 8);
        due("23: plugged earlier", x.holds(0, 4, 12, 20), 6);
        due("23: plugged ahead", x.holds(0, 4, 11, 20), 0);
        x.paper(0, 5, 33, 0, 14);
        x.paper(0, 5, 44, 1, 14);
        x.paper(0, 5, 55, 0, 13);
        due("23: owner", x.holds(0, 5, 20, 20), 44);
        due("23: owner on day 13", x.holds(0, 5, 13, 20), 55);
        due("23: owner at first", x.holds(0, 5, 12, 20), 9);
        due("23: owner as known", x.holds(0, 5, 20, 19), 9);
        due("23: what 6", x.holds(0, 6, 20, 20), NONE);
        due("23: what -1", x.holds(0, -1, 20, 20), NONE);
        due("23: no vessel", x.holds(1, 5, 20, 20), NONE);
        due("23: not known", x.holds(0, 5, 20, 9), NONE);
        due("23: ahead of built", x.holds(0, 5, 9, 20), NONE);
        due("23: day 40001", x.holds(0, 5, LAST + 1, 20), NONE);
        due("23: known 40001", x.holds(0, 5, 20, LAST + 1), NONE);
        due("23: both 40000", x.holds(0, 5, LAST, LAST), 44);
    }

    private static void dues() {
        BoilerRoll x = new BoilerRoll();
        x.pass(100);
        x.vessel(9, 1, 0, 100);
        due("24: without a paper", x.due(0, 0, 100, 100), 465);
        x.pass(7400);
        x.paper(0, 0, 1, 0, 7399);
        x.paper(0, 1, 1, 0, 7400);
        x.paper(0, 2, 1, 3, 7400);
        x.paper(0, 0, 1, 0, 300);
        x.rule(0, 10, 20);
        x.rule(1, 30, 40);
        due("24: young at 7299 days", x.due(0, 0, 7400, 7400), 7409);
        due("24: old at 7300 days", x.due(0, 1, 7400, 7400), 7440);
        due("24: one that is not good", x.due(0, 2, 7400, 7400), 465);
        due("24: of a day, ahead of a paper", x.due(0, 0, 7398, 7400), 310);
        due("24: ahead of both", x.due(0, 0, 299, 7400), 110);
        due("24: as known ahead", x.due(0, 0, 7400, 7399), 465);
        x.rule(0, 50, 60);
        due("24: the rule entered last", x.due(0, 0, 7400, 7400), 7449);
        x.undo();
        due("24: a rule that went", x.due(0, 0, 7400, 7400), 7409);
        due("24: kind 3", x.due(0, 3, 7400, 7400), NONE);
        due("24: kind -1", x.due(0, -1, 7400, 7400), NONE);
        due("24: no vessel", x.due(1, 0, 7400, 7400), NONE);
        due("24: not known", x.due(0, 0, 7400, 99), NONE);
        due("24: ahead of built", x.due(0, 0, 99, 7400), NONE);
        due("24: day -1", x.due(0, 0, -1, 7400), NONE);
        x.pass(LAST);
        x.paper(0, 2, 0, 0, LAST);
        x.rule(2, 1, 4000);
        due("24: above 40000", x.due(0, 2, LAST, LAST), 44000);
    }

    private static void why() {
        BoilerRoll x = fired();
        due("25: may be fired", x.why(0, 1000, 1000), 0);
        due("25: no vessel", x.why(1, 1000, 1000), NONE);
        due("25: vessel -1", x.why(-1, 1000, 1000), NONE);
        due("25: day -1", x.why(0, -1, 1000), NONE);
        due("25: day 40001", x.why(0, LAST + 1, 1000), NONE);
        due("25: known -1", x.why(0, 1000, -1), NONE);
        due("25: known 40001", x.why(0, 1000, LAST + 1), NONE);
        due("25: ahead of built", x.why(0, 999, 1000), 1);
        due("25: not known", x.why(0, 1000, 999), 1);
        due("25: on the due day", x.why(0, 1365, 1000), 0);
        due("25: behind it", x.why(0, 1366, 1000), 3);
        x.pass(1366);
        x.paper(0, 0, 0, 0, 1366);
        due("25: inside", x.why(0, 1366, 1366), 4);
        x.paper(0, 1, 0, 0, 1366);
        due("25: test", x.why(0, 1366, 1366), 5);
        x.paper(0, 2, 0, 0, 1366);
        due("25: all good", x.why(0, 1366, 1366), 0);
        x.set(0, 0, 10000, 1366);
        due("25: it bears as much as the setting", x.why(0, 1366, 1366), 0);
        x.part(0, 1, 2000, 10, 199, 1000);
        due("25: part 1 bears 9950", x.why(0, 1366, 1366), 8 + 16);
        due("25: of the day built, but not known ahead", x.why(0, 1100, 1365), 0);
        due("25: as known today", x.why(0, 1100, 1366), 0);
        x.set(0, 0, 9950, 1366);
        due("25: as much as it bears", x.why(0, 1366, 1366), 0);
    }

    private static void stops() {
        BoilerRoll x = fired();
        x.pass(1100);
        x.paper(0, 2, 0, 0, 1000);
        x.paper(0, 3, 0, 0, 1050);
        due("25: ahead of the stop", x.why(0, 1049, 1100), 0);
        due("25: from the stop on", x.why(0, 1050, 1100), 2);
        x.paper(0, 4, 0, 0, 1049);
        due("25: a free ahead of it", x.why(0, 1100, 1100), 2);
        x.paper(0, 4, 0, 0, 1060);
        due("25: stopped until the free", x.why(0, 1059, 1100), 2);
        due("25: free", x.why(0, 1060, 1100), 0);
        x.paper(0, 3, 0, 7, 1060);
        due("25: a stop entered behind the free of its day", x.why(0, 1060, 1100), 2);
        x.paper(0, 4, 0, 0, 1060);
        due("25: freed again", x.why(0, 1060, 1100), 0);
        x.paper(0, 1, 0, 1, 1070);
        due("25: a look that found", x.why(0, 1070, 1100), 2);
        x.paper(0, 1, 0, 0, 1071);
        due("25: a good look lifts nothing", x.why(0, 1071, 1100), 2);
        x.plate(0, 0, 200, 1069);
        x.paper(0, 2, 0, 0, 1071);
        due("25: a mend ahead of it", x.why(0, 1071, 1100), 2);
        x.patch(0, 0, 90000, 200, 1000, 1072);
        due("25: a test ahead of the mend", x.why(0, 1072, 1100), 2);
        x.paper(0, 2, 0, 0, 1073);
        due("25: until the test", x.why(0, 1072, 1100), 2);
        due("25: a mend and a good test", x.why(0, 1073, 1100), 0);
        due("25: as it was known", x.why(0, 1073, 1099), 0);
        x.paper(0, 2, 0, 9, 1080);
        due("25: a test that found", x.why(0, 1080, 1100), 2);
        x.plate(0, 0, 200, 1080);
        x.paper(0, 2, 0, 0, 1080);
        due("25: mend and test of its day", x.why(0, 1080, 1100), 0);
        x.paper(0, 0, 0, 9, 1080);
        due("25: they may be entered ahead of it", x.why(0, 1080, 1100), 0);
        x.plate(0, 0, 200, 1090);
        due("25: a mend without a test behind it", x.why(0, 1090, 1100), 6);
        due("25: ahead of the mend", x.why(0, 1089, 1100), 0);
        x.paper(0, 2, 0, 0, 1095);
        due("25: ahead of the test", x.why(0, 1094, 1100), 6);
        due("25: tested", x.why(0, 1095, 1100), 0);
    }

    private static void stopsOfMany() {
        BoilerRoll x = fired();
        x.part(0, 0, 2000, 10, 100, 1000);
        x.pass(1100);
        x.paper(0, 3, 0, 0, 1010);
        x.paper(0, 3, 0, 0, 1030);
        x.paper(0, 4, 0, 0, 1020);
        due("25: a free ahead of the second stop", x.why(0, 1040, 1100), 2);
        due("25: it freed the first", x.why(0, 1020, 1100), 0);
        x.plate(0, 1, 100, 1030);
        x.plate(0, 1, 100, 1060);
        x.paper(0, 2, 0, 0, 1040);
        due("25: the earlier mend of two was tested, the stop is lifted", x.why(0, 1059, 1100), 0);
        due("25: the later one was not", x.why(0, 1060, 1100), 6);
        x.vessel(1, 1, 0, 1000);
        x.paper(1, 3, 0, 0, 1000);
        x.plate(0, 0, 100, 1100);
        due("25: another vessel's mend", x.why(1, 1100, 1100), 2);
    }

    private static void valvesAndTubes() {
        BoilerRoll x = new BoilerRoll();
        x.pass(10);
        x.vessel(1, 1, 1000, 10);
        due("25: no valve", x.why(0, 10, 10), 7);
        x.pass(20);
        x.valve(0, 5, 999, 15);
        due("25: no valve yet", x.why(0, 14, 20), 7);
        due("25: 999 below 1000", x.why(0, 15, 20), 9);
        x.valve(0, 6, 1, 16);
        due("25: 1000", x.why(0, 16, 20), 0);
        x.part(0, 2, 100, 1, 100, 1000);
        x.part(0, 2, 100, 1, 100, 1000);
        x.shape(0, 0, 1, 0, 7);
        x.shape(0, 1, 1, 0, 13);
        due("25: with tubes", x.why(0, 16, 20), 0);
        due("25: with tubes, too little", x.why(0, 15, 20), 9);
        x.plug(0, 1, 1, 15);
        due("25: 999 * 20 is not below 1000 * 19", x.why(0, 15, 20), 0);
        x.plug(0, 0, 1, 16);
        due("25: ten times 2 is not above 20", x.why(0, 16, 20), 0);
        x.plug(0, 0, 2, 17);
        due("25: ten times 3 is", x.why(0, 17, 20), 10);
        due("26: may not", x.may(0, 17, 20), 0);
        due("26: may", x.may(0, 16, 20), 5);
    }

    private static void greatNumbers() {
        BoilerRoll x = new BoilerRoll();
        x.vessel(0, 1, 100000, 0);
        for (int p = 0; p < 24; p++) {
            x.part(0, 2, 100000, 1, 10000, 1000);
            x.shape(0, p, 1, 0, 500);
        }
        x.valve(0, 1, 99999, 0);
        due("25: 99999 * 12000 is below 100000 * 12000", x.why(0, 0, 0), 9);
        for (int i = 1; i < 6; i++) {
            x.valve(0, 1, 100000, 0);
        }
        due("25: 599999 * 12000", x.why(0, 0, 0), 0);
        due("23: passes", x.holds(0, 2, 0, 0), 599999);
        x.part(0, 0, 1, 1, 1, 1);
        x.undo();
        x.set(0, 5, 10000, 0);
        due("26: the least setting", x.may(0, 0, 0), 1);
    }

    private static void mayUntilCheck() {
        BoilerRoll x = fired();
        due("26: may", x.may(0, 1000, 1000), 8000);
        due("26: no vessel", x.may(1, 1000, 1000), NONE);
        due("26: no day", x.may(0, LAST + 1, 1000), NONE);
        due("26: no known", x.may(0, 1000, -1), NONE);
        due("26: not known", x.may(0, 1000, 999), 0);
        due("27: until the papers are due", x.until(0, 1000, 1000), 1365);
        due("27: until, from the last day", x.until(0, 1365, 1000), 1365);
        due("27: not on this one", x.until(0, 1366, 1000), NONE);
        due("27: no vessel", x.until(1, 1000, 1000), NONE);
        due("27: no day", x.until(0, -1, 1000), NONE);
        due("27: not known", x.until(0, 1000, 999), NONE);
        due("29: right", x.check(0, 1000, 1000, 8000, 1365), 0);
        due("29: the pressure", x.check(0, 1000, 1000, 8001, 1365), 1);
        due("29: the last day", x.check(0, 1000, 1000, 8000, 1366), 2);
        due("29: both", x.check(0, 1000, 1000, 0, 0), 1);
        due("29: may not, right", x.check(0, 1366, 1000, 0, NONE), 0);
        due("29: may not, a day told", x.check(0, 1366, 1000, 0, 1366), 2);
        due("29: no vessel", x.check(1, 1000, 1000, NONE, NONE), NONE);
        due("29: no day", x.check(0, LAST + 1, 1000, 0, 0), NONE);
        due("29: not known", x.check(0, 1000, 999, 0, NONE), 0);
        for (int kind = 0; kind < 3; kind++) {
            x.rule(kind, 4000, 4000);
        }
        due("27: 400 days later", x.until(0, 1000, 1000), 1400);
        x.pass(LAST);
        x.vessel(1, 1, 0, LAST - 3);
        x.valve(1, 10, 1, LAST - 3);
        due("27: 40000 at most", x.until(1, LAST - 3, LAST), LAST);
        x.valve(0, 8000, 500, 1010);
        due("27: over a day on which an act begins to hold", x.until(0, 1000, LAST), 1400);
        x.set(0, 0, 10001 - 1, 1020);
        due("27: as much as it bears", x.until(0, 1000, LAST), 1400);
        x.paper(0, 3, 0, 0, 1015);
        due("27: up to a stop", x.until(0, 1000, LAST), 1014);
        due("27: as known ahead", x.until(0, 1000, LAST - 1), 1400);
        x.undo();
        file(x, 0, 0, 1030, 99);
        due("27: up to a measure", x.until(0, 1000, LAST), 1029);
        x.undo();
        x.plate(0, 0, 200, 1040);
        due("27: up to a mend", x.until(0, 1000, LAST), 1039);
        x.paper(0, 2, 0, 0, 1040);
        due("27: over a tested mend", x.until(0, 1000, LAST), 1400);
        x.rule(0, 50, 60);
        x.paper(0, 0, 0, 0, 1045);
        due("27: a paper puts the due day off", x.until(0, 1000, LAST), 1095);
    }

    private static void when() {
        BoilerRoll x = fired();
        x.shape(0, 0, 1, 365, 1);
        due("28: 100 a day", x.when(0, 0, 1000, 1000), 1021);
        due("28: it bears 8000 the day ahead", x.bears(0, 0, 1020, 1000), 8000);
        due("28: on this one", x.when(0, 0, 1030, 1000), 1030);
        due("28: no part", x.when(0, 1, 1000, 1000), NONE);
        due("28: part -1", x.when(0, -1, 1000, 1000), NONE);
        due("28: no vessel", x.when(1, 0, 1000, 1000), NONE);
        due("28: ahead of built", x.when(0, 0, 999, 1000), NONE);
        due("28: not known", x.when(0, 0, 1000, 999), NONE);
        due("28: day 40001", x.when(0, 0, LAST + 1, 1000), NONE);
        x.pass(1200);
        x.set(0, 0, 9950, 1002);
        due("28: the greatest setting then", x.when(0, 0, 1000, 1200), 1002);
        due("28: as known", x.when(0, 0, 1000, 1199), 1021);
        x.undo();
        file(x, 0, 0, 1010, 79);
        due("28: on the day of a measure", x.when(0, 0, 1000, 1200), 1010);
        x.undo();
        x.plate(0, 0, 100, 1015);
        due("28: a new plate puts it off", x.when(0, 0, 1000, 1200), 1036);
        BoilerRoll y = new BoilerRoll();
        y.pass(500);
        y.vessel(0, 1, 0, 0);
        y.part(0, 0, 1, 100000, 1, 1);
        due("28: without valves", y.when(0, 0, 0, 500), NONE);
        y.valve(0, 1, 1, 401);
        due("28: a valve 401 days later", y.when(0, 0, 0, 500), NONE);
        due("28: 400 days later", y.when(0, 0, 1, 500), 401);
        BoilerRoll z = new BoilerRoll();
        z.pass(LAST);
        z.vessel(0, 1, 0, LAST - 10);
        z.part(0, 0, 10, 1, 1, 1000);
        z.valve(0, 5, 1, LAST - 10);
        due("28: none up to 40000", z.when(0, 0, LAST - 10, LAST), NONE);
        z.set(0, 0, 11, LAST);
        due("28: on 40000", z.when(0, 0, LAST - 10, LAST), LAST);
    }

    private static void lists() {
        BoilerRoll x = new BoilerRoll();
        due("30: no vessels", x.list(Integer.MIN_VALUE, Integer.MAX_VALUE), 0);
        x.pass(1000);
        x.vessel(1, 1, 0, 900);
        x.vessel(1, 1, 0, 100);
        x.paper(1, 1, 0, 0, 950);
        x.paper(0, 0, 0, 0, 950);
        x.paper(1, 2, 0, 5, 1000);
        // vessel 0: 1315, 1265, 1265; vessel 1: 465, 1315, 465
        due("30: all", x.list(Integer.MIN_VALUE, Integer.MAX_VALUE), 6);
        int[][] want = {{1, 0, 465, 1}, {1, 2, 465, 1}, {0, 1, 1265, 0}, {0, 2, 1265, 0}, {0, 0, 1315, 0}, {1, 1, 1315, 0}};
        for (int i = 0; i < 6; i++) {
            for (int what = 0; what < 4; what++) {
                due("31: listed(" + i + ", " + what + ")", x.listed(i, what), want[i][what]);
            }
        }
        due("31: the 7th", x.listed(6, 0), NONE);
        due("31: the -1st", x.listed(-1, 0), NONE);
        due("31: what 4", x.listed(0, 4), NONE);
        due("31: what -1", x.listed(0, -1), NONE);
        x.pass(1265);
        x.undo();
        due("31: as it was then", x.listed(2, 3), 0);
        due("30: from 1265 to 1265", x.list(1265, 1265), 2);
        due("31: due today is not late", x.listed(0, 3), 0);
        due("31: the first listed", x.listed(0, 1), 1);
        due("31: no third", x.listed(2, 0), NONE);
        due("30: from 1266 to 1314", x.list(1266, 1314), 0);
        due("31: none any more", x.listed(0, 0), NONE);
        due("30: to ahead of from", x.list(1315, 465), 0);
        x.pass(1266);
        due("30: a day later", x.list(1265, 1265), 2);
        due("31: late", x.listed(1, 3), 1);
        BoilerRoll y = new BoilerRoll();
        y.pass(LAST);
        for (int v = 0; v < 30; v++) {
            y.vessel(0, 1, 0, LAST);
        }
        for (int kind = 0; kind < 3; kind++) {
            y.rule(kind, 4000, 4000);
        }
        due("30: 90", y.list(44000, 44000), 90);
        due("31: the last of 90", y.listed(89, 0), 29);
        due("31: its kind", y.listed(89, 1), 2);
        due("31: its day", y.listed(89, 2), 44000);
    }

    public static void main(String[] args) {
        thick();
        plates();
        bears();
        patches();
        holds();
        dues();
        why();
        stops();
        stopsOfMany();
        valvesAndTubes();
        greatNumbers();
        mayUntilCheck();
        when();
        lists();
        System.out.println(wrong == 0 ? "all answers are as due" : wrong + " answers are not as due");
        if (wrong != 0) {
            System.exit(1);
        }
    }
}
