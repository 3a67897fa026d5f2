/**
 * Each sentence of promises 19 to 31, and of the terms that they call on, that names a boundary: a test
 * of its own, at the boundary, one step inside and one step outside. It names the promise and tells the
 * sentence, with [..] for what is left out. Each roll is used for 512 calls at most.
 */
public final class HoldsBoundsTest {
    private static final int NONE = BoilerRoll.NONE;
    private static final int LAST = 40000;
    private static final int LEAST = Integer.MIN_VALUE;
    private static final int MOST = Integer.MAX_VALUE;

    private static int wrong = 0;
    private static String sentence = "";

    /** Something done to a roll. */
    private interface Act {
        void on(BoilerRoll x);
    }

    /** A question of a day, as known on a day. */
    private interface Ask {
        int of(BoilerRoll x, int day, int known);
    }

    /** A question with one of its numbers left open. */
    private interface Call {
        int on(BoilerRoll x, int n);
    }

    /** Names the sentence that the calls behind this are about. */
    private static void of(String where, String words) {
        sentence = where + ", \"" + words + "\": ";
    }

    /** The same, with the one case of it that they are about. */
    private static void of(String where, String words, String which) {
        sentence = where + ", \"" + words + "\" (" + which + "): ";
    }

    private static void due(String told, long got, long want) {
        if (got != want) {
            wrong++;
            System.out.println(sentence + told + " answered " + got + ", due is " + want);
        }
    }

    private static void accepted(int answer) {
        due("an act that makes ready, whether it is accepted", answer >= 0 ? 1 : 0, 1);
    }

    private static void file(BoilerRoll x, int part, int day, int... tenths) {
        x.sheet(0, tenths.length);
        for (int i = 0; i < tenths.length; i++) {
            x.entry(i, tenths[i]);
        }
        due("measure that makes ready", x.measure(0, part, day), tenths.length);
    }

    /** The same with one spot left out. */
    private static void fileAllBut(BoilerRoll x, int part, int day, int left, int... tenths) {
        x.sheet(1, tenths.length);
        for (int i = 0; i < tenths.length; i++) {
            x.entry(i, i == left ? -1 : Float.floatToRawIntBits(tenths[i] / 10f));
        }
        due("measure that makes ready", x.measure(0, part, day), tenths.length - 1);
    }

    /**
     * Vessel 0, built and entered on day 100, with part 0, a shell that bears its thickness, 100 at first, and
     * valve 0, set to 50. Nothing falls due for 4000 days, so it may be fired. Today is 200.
     */
    private static BoilerRoll fired() {
        BoilerRoll x = firedOn100();
        x.pass(200);
        return x;
    }

    private static BoilerRoll firedOn100() {
        BoilerRoll x = new BoilerRoll();
        x.pass(100);
        accepted(x.vessel(7, 1, 10, 100));
        accepted(x.part(0, 0, 10, 10, 100, 1000));
        accepted(x.valve(0, 50, 10, 100));
        for (int kind = 0; kind <= 2; kind++) {
            accepted(x.rule(kind, 4000, 4000));
        }
        return x;
    }

    // ---- terms 1: what is known, what holds, what is the last

    /** An act of day 150, entered on day 200: what is told where it does not hold, and where it does. */
    private static void begins(String what, Act act, Ask ask, int without, int with) {
        BoilerRoll x = fired();
        act.on(x);
        x.pass(300);
        for (int day : new int[] {149, 150, 151}) {
            for (int known : new int[] {199, 200, 201, LAST}) {
                int want = day >= 150 && known >= 200 ? with : without;
                due(what + " on day " + day + ", known on " + known, ask.of(x, day, known), want);
            }
        }
    }

    private static void actsBegin() {
        of("Terms 1", "HOLDS on a day d, as known on a day k, what ACTS with a DAY not above d, and known on k, tell");
        begins("a vessel", x -> x.vessel(77, 1, 0, 150), (x, d, k) -> x.holds(1, 5, d, k), NONE, 77);
        begins("a vessel's why", x -> x.vessel(77, 1, 0, 150), (x, d, k) -> x.why(1, d, k), 1, 7);
        begins("a measure", x -> file(x, 0, 150, 110), (x, d, k) -> x.thick(0, 0, 0, d, k), 100, 110);
        begins("a measure's doubt", x -> file(x, 0, 150, 110), (x, d, k) -> x.doubts(0, 0, d, k), 0, 1);
        begins("a patch", x -> accepted(x.patch(0, 0, 1250, 1, 500, 150)), (x, d, k) -> x.bears(0, 0, d, k), 100, 50);
        begins("a patch's why", x -> accepted(x.patch(0, 0, 9, 9, 9, 150)), (x, d, k) -> x.why(0, d, k), 0, 6);
        begins("a plate", x -> accepted(x.plate(0, 0, 300, 150)), (x, d, k) -> x.bears(0, 0, d, k), 100, 300);
        begins("a plate's why", x -> accepted(x.plate(0, 0, 300, 150)), (x, d, k) -> x.why(0, d, k), 0, 6);
        begins("a valve's setting", x -> accepted(x.valve(0, 60, 5, 150)), (x, d, k) -> x.holds(0, 0, d, k), 50, 60);
        begins("a valve's passes", x -> accepted(x.valve(0, 60, 5, 150)), (x, d, k) -> x.holds(0, 2, d, k), 10, 15);
        begins("a set", x -> accepted(x.set(0, 0, 60, 150)), (x, d, k) -> x.holds(0, 1, d, k), 50, 60);
        begins("a good look", x -> accepted(x.paper(0, 0, 0, 0, 150)), (x, d, k) -> x.due(0, 0, d, k), 4100, 4150);
        begins("a stop", x -> accepted(x.paper(0, 3, 0, 0, 150)), (x, d, k) -> x.why(0, d, k), 0, 2);
        begins("a sale", x -> accepted(x.paper(0, 5, 88, 0, 150)), (x, d, k) -> x.holds(0, 5, d, k), 7, 88);
        begins("a stop's may", x -> accepted(x.paper(0, 3, 0, 0, 150)), (x, d, k) -> x.may(0, d, k), 50, 0);
    }

    private static void tubesBegin() {
        of("Terms 1", "HOLDS on a day d, as known on a day k, what ACTS with a DAY not above d, and known on k, tell",
                "a plug");
        BoilerRoll x = firedOn100();
        accepted(x.part(0, 2, 10, 10, 100, 1000));
        accepted(x.shape(0, 1, 1, 0, 10));
        x.pass(200);
        accepted(x.plug(0, 1, 10, 150));
        x.pass(300);
        for (int day : new int[] {149, 150, 151}) {
            for (int known : new int[] {199, 200, 201, LAST}) {
                boolean holds = day >= 150 && known >= 200;
                due("plugged on " + day + ", known on " + known, x.holds(0, 4, day, known), holds ? 10 : 0);
                due("bears on " + day + ", known on " + known, x.bears(0, 1, day, known), holds ? 1000000 : 100);
            }
        }
    }

    private static void freesBegin() {
        of("Terms 1", "HOLDS on a day d, as known on a day k, what ACTS with a DAY not above d, and known on k, tell",
                "a free");
        BoilerRoll x = firedOn100();
        accepted(x.paper(0, 3, 0, 0, 100));
        x.pass(200);
        accepted(x.paper(0, 4, 0, 0, 150));
        x.pass(300);
        for (int day : new int[] {149, 150, 151}) {
            for (int known : new int[] {199, 200, 201, LAST}) {
                due("stopped on " + day + ", known on " + known, x.why(0, day, known), day >= 150 && known >= 200 ? 0 : 2);
            }
        }
    }

    private static void partsAreOfTheDayBuilt() {
        of("Terms 7", "All parts are of the day BUILT (known when they were entered); so what shape() tells");
        BoilerRoll x = fired();
        accepted(x.part(0, 2, 10, 10, 80, 1000));
        x.pass(300);
        accepted(x.shape(0, 1, 3, 365, 40));
        x.pass(400);
        for (int day : new int[] {100, 101, 199, 200, 299, 300}) {
            due("part 1, as known on 199, day " + day, x.bears(0, 1, day, 199), NONE);
            due("weakest, as known on 199, day " + day, x.weakest(0, day, 199), 0);
            due("tubes, as known on 199, day " + day, x.holds(0, 3, day, 199), 0);
            due("part 1, as known on 200, day " + day, x.bears(0, 1, day, 200), 80);
            due("weakest, as known on 200, day " + day, x.weakest(0, day, 200), 1);
            due("tubes, as known on 200, day " + day, x.holds(0, 3, day, 200), 1);
            due("spot 1, as known on 299, day " + day, x.thick(0, 1, 1, day, 299), NONE);
            due("tubes, as known on 299, day " + day, x.holds(0, 3, day, 299), 1);
            due("spot 1, as known on 300, day " + day, x.thick(0, 1, 1, day, 300), Math.max(0, 80 - (day - 100)));
            due("tubes, as known on 300, day " + day, x.holds(0, 3, day, 300), 40);
        }
        due("on the day ahead of BUILT", x.bears(0, 1, 99, 300), NONE);
    }

    private static void ruleIsOfNoDay() {
        of("Promise 15", "(It is of no DAY.)");
        BoilerRoll x = fired();
        accepted(x.rule(0, 10, 10));
        x.pass(300);
        for (int day : new int[] {100, 101, 199, 200, 201, LAST}) {
            due("as known on 199, day " + day, x.due(0, 0, day, 199), 4100);
            due("as known on 200, day " + day, x.due(0, 0, day, 200), 110);
            due("as known on 201, day " + day, x.due(0, 0, day, 201), 110);
        }
    }

    /** Of acts of days 150, 150, 149, entered in this order, the second counts from 150 on, the third on 149. */
    private static void last(String what, Act first, Act second, Act third, Call ask, int... want) {
        BoilerRoll x = fired();
        accepted(x.part(0, 2, 10, 10, 100, 1000));
        accepted(x.shape(0, 1, 1, 0, 10));
        first.on(x);
        second.on(x);
        due(what + ", behind two acts, on 149", ask.on(x, 149), want[0]);
        due(what + ", behind two acts, on 150", ask.on(x, 150), want[2]);
        third.on(x);
        due(what + " on 148", ask.on(x, 148), want[0]);
        due(what + " on 149", ask.on(x, 149), want[1]);
        due(what + " on 150", ask.on(x, 150), want[2]);
        due(what + " on 151", ask.on(x, 151), want[2]);
    }

    private static void theLast() {
        of("Terms 1", "the LAST is that with the greatest DAY, of one DAY that entered last");
        last("plate", x -> accepted(x.plate(0, 0, 80, 150)), x -> accepted(x.plate(0, 0, 90, 150)),
                x -> accepted(x.plate(0, 0, 70, 149)), (x, d) -> x.thick(0, 0, 0, d, 200), 100, 70, 90);
        last("measure", x -> file(x, 0, 150, 130), x -> file(x, 0, 150, 120),
                x -> file(x, 0, 149, 110), (x, d) -> x.thick(0, 0, 0, d, 200), 100, 110, 120);
        last("patch", x -> accepted(x.patch(0, 0, 125, 1, 1000, 150)), x -> accepted(x.patch(0, 0, 250, 1, 1000, 150)),
                x -> accepted(x.patch(0, 0, 500, 1, 1000, 149)), (x, d) -> x.bears(0, 0, d, 200), 100, 40, 20);
        last("mend, a patch first", x -> accepted(x.patch(0, 0, 125, 1, 1000, 150)), x -> accepted(x.plate(0, 0, 90, 150)),
                x -> accepted(x.patch(0, 0, 250, 1, 1000, 149)), (x, d) -> x.bears(0, 0, d, 200), 100, 20, 90);
        last("mend, a plate first", x -> accepted(x.plate(0, 0, 90, 150)), x -> accepted(x.patch(0, 0, 125, 1, 1000, 150)),
                x -> accepted(x.plate(0, 0, 80, 149)), (x, d) -> x.bears(0, 0, d, 200), 100, 80, 10);
        last("mend, plates first", x -> accepted(x.plate(0, 0, 80, 150)), x -> accepted(x.plate(0, 0, 90, 150)),
                x -> accepted(x.patch(0, 0, 125, 1, 1000, 149)), (x, d) -> x.bears(0, 0, d, 200), 100, 10, 90);
        last("plug", x -> accepted(x.plug(0, 1, 5, 150)), x -> accepted(x.plug(0, 1, 3, 150)),
                x -> accepted(x.plug(0, 1, 7, 149)), (x, d) -> x.holds(0, 4, d, 200), 0, 7, 3);
        last("set", x -> accepted(x.set(0, 0, 60, 150)), x -> accepted(x.set(0, 0, 55, 150)),
                x -> accepted(x.set(0, 0, 70, 149)), (x, d) -> x.holds(0, 0, d, 200), 50, 70, 55);
        last("sale", x -> accepted(x.paper(0, 5, 60, 0, 150)), x -> accepted(x.paper(0, 5, 55, 0, 150)),
                x -> accepted(x.paper(0, 5, 70, 0, 149)), (x, d) -> x.holds(0, 5, d, 200), 7, 70, 55);
        last("good look", x -> accepted(x.paper(0, 1, 60, 0, 150)), x -> accepted(x.paper(0, 1, 55, 0, 150)),
                x -> accepted(x.paper(0, 1, 70, 0, 149)), (x, d) -> x.due(0, 1, d, 200), 4100, 4149, 4150);
    }

    /** Not one number that is told of day 0 may be taken for none. */
    private static void dayNought() {
        of("Terms 1", "DAYS are 0 .. 40000", "acts of day 0");
        BoilerRoll x = new BoilerRoll();
        accepted(x.vessel(7, 1, 10, 0));
        accepted(x.part(0, 2, 10, 10, 100, 1000));
        accepted(x.shape(0, 0, 1, 0, 10));
        due("the plate", x.thick(0, 0, 0, 0, 0), 100);
        due("no valve", x.why(0, 0, 0), 7);
        accepted(x.valve(0, 50, 10, 0));
        due("a valve", x.why(0, 0, 0), 0);
        accepted(x.set(0, 0, 60, 0));
        due("a set", x.may(0, 0, 0), 60);
        accepted(x.plug(0, 0, 1, 0));
        due("a plug", x.holds(0, 4, 0, 0), 1);
        accepted(x.paper(0, 5, 8, 0, 0));
        due("a sale", x.holds(0, 5, 0, 0), 8);
        accepted(x.paper(0, 3, 0, 0, 0));
        due("a stop", x.why(0, 0, 0), 2);
        accepted(x.paper(0, 4, 0, 0, 0));
        due("a free", x.why(0, 0, 0), 0);
        accepted(x.patch(0, 0, 1000, 1, 1000, 0));
        due("a patch without a test", x.why(0, 0, 0), 6);
        due("what it bears", x.bears(0, 0, 0, 0), 80);
        accepted(x.paper(0, 2, 0, 0, 0));
        due("a good test", x.why(0, 0, 0), 0);
        accepted(x.paper(0, 2, 0, 1, 0));
        due("a mend and a good test lift what stops", x.why(0, 0, 0), 0);
        accepted(x.plate(0, 0, 90, 0));
        due("a plate", x.bears(0, 0, 0, 0), 90);
        file(x, 0, 0, 95);
        due("a measure in its place", x.thick(0, 0, 0, 0, 0), 95);
        x.pass(2);
        file(x, 0, 1, 96);
        due("day 0 is ahead of day 1", x.doubts(0, 0, 1, 2), 1);
        file(x, 0, 1, 90);
        due("five a day since day 0", x.thick(0, 0, 0, 2, 2), 85);
        due("and until 0", x.thick(0, 0, 0, 19, 2), 0);
        due("a day ahead of that", x.thick(0, 0, 0, 18, 2), 5);
    }

    private static void stopOfDayNought() {
        of("Terms 1", "DAYS are 0 .. 40000", "a stop, and a mend, of day 0");
        for (int mend = 0; mend <= 2; mend++) {
            BoilerRoll x = new BoilerRoll();
            accepted(x.vessel(7, 1, 10, 0));
            accepted(x.part(0, 0, 10, 10, 100, 1000));
            accepted(x.valve(0, 50, 10, 0));
            x.pass(1);
            if (mend > 0) {
                accepted(mend == 1 ? x.patch(0, 0, 1000, 1, 1000, 0) : x.plate(0, 0, 90, 0));
                due("mend " + mend, x.why(0, 0, 1), 6);
            }
            accepted(x.paper(0, 0, 0, 1, 0));
            due("mend " + mend + ", a look that found", x.why(0, 0, 1), 2);
            accepted(x.paper(0, 2, 0, 0, 1));
            due("mend " + mend + ", the day ahead of the test", x.why(0, 0, 1), 2);
            due("mend " + mend + ", tested the day behind", x.why(0, 1, 1), mend == 0 ? 2 : 0);
            accepted(x.paper(0, 4, 0, 0, 0));
            due("mend " + mend + ", freed", x.why(0, 0, 1), mend == 0 ? 0 : 6);
        }
    }

    private static void knownBehindUndo() {
        of("Terms 1", "An ACT is KNOWN on a day if it was entered on that day or ahead of it", "behind acts that went");
        BoilerRoll x = firedOn100();
        accepted(x.set(0, 0, 60, 100));
        accepted(x.set(0, 0, 61, 100));
        x.undo();
        x.undo();
        x.pass(200);
        accepted(x.set(0, 0, 70, 100));
        accepted(x.set(0, 0, 71, 100));
        x.undo();
        x.pass(300);
        accepted(x.set(0, 0, 80, 100));
        int[][] asked = {{99, NONE}, {100, 50}, {199, 50}, {200, 70}, {299, 70}, {300, 80}};
        for (int[] one : asked) {
            due("as known on " + one[0], x.holds(0, 0, 100, one[0]), one[1]);
        }
    }

    private static void eachOfItsVessel() {
        of("Terms 1", "HOLDS on a day d, as known on a day k",
                "of each vessel its own acts alone, whichever was asked ahead of it");
        BoilerRoll x = fired();
        accepted(x.part(0, 2, 10, 10, 100, 1000));
        accepted(x.shape(0, 1, 3, 365, 10));
        accepted(x.plug(0, 1, 1, 150));
        accepted(x.paper(0, 2, 0, 0, 200));
        accepted(x.paper(0, 5, 9, 0, 150));
        accepted(x.set(0, 0, 40, 150));
        accepted(x.vessel(8, 1, 10, 100));
        accepted(x.part(1, 0, 10, 10, 100, 1000));
        accepted(x.valve(1, 30, 10, 100));
        x.sheet(0, 1);
        x.entry(0, 95);
        accepted(x.measure(1, 0, 100));
        x.sheet(0, 1);
        x.entry(0, 85);
        accepted(x.measure(1, 0, 101));
        accepted(x.patch(0, 0, 9999, 9999, 1000, 120));
        accepted(x.plate(0, 0, 100, 150));
        for (int time = 0; time < 3; time++) {
            due("may of 0", x.may(0, 200, 200), 0);
            due("why of 1", x.why(1, 200, 200), 8);
            due("why of 0", x.why(0, 150, 200), 6);
            due("thick of 1", x.thick(1, 0, 0, 100, 200), 95);
            due("spots of 0", x.thick(0, 1, 2, 101, 200), 99);
            due("spots of 1", x.thick(1, 0, 1, 101, 200), NONE);
            due("plugged of 0", x.holds(0, 4, 200, 200), 1);
            due("plugged of 1", x.holds(1, 4, 200, 200), 0);
            due("tubes of 0", x.holds(0, 3, 200, 200), 10);
            due("tubes of 1", x.holds(1, 3, 200, 200), 0);
            due("owner of 0", x.holds(0, 5, 200, 200), 9);
            due("owner of 1", x.holds(1, 5, 200, 200), 8);
            due("setting of 0", x.holds(0, 1, 200, 200), 40);
            due("setting of 1", x.holds(1, 1, 200, 200), 30);
            due("doubts of 0", x.doubts(0, 0, 200, 200), 0);
            due("bears of 1", x.bears(1, 0, 102, 200), 75);
            due("parts of 1", x.bears(1, 1, 200, 200), NONE);
        }
        accepted(x.plate(1, 0, 100, 160));
        due("tested of 0", x.why(0, 200, 200), 8 + 16);
        due("not tested of 1", x.why(1, 200, 200), 6);
    }

    // ---- terms 3: plates and measures

    private static void firstPlate() {
        of("Terms 3", "a part's first one is of the day BUILT");
        BoilerRoll x = fired();
        due("the day ahead", x.thick(0, 0, 0, 99, 200), NONE);
        due("on it", x.thick(0, 0, 0, 100, 200), 100);
        due("the day behind", x.thick(0, 0, 0, 101, 200), 100);
        accepted(x.plate(0, 0, 80, 100));
        due("a plate of that day, entered behind it", x.thick(0, 0, 0, 100, 200), 80);
    }

    private static void measuresBehindThePlate() {
        of("Terms 3", "MEASURES of a spot that count are those that hold, of a DAY not ahead of that PLATE's and, if it is of the same DAY, entered behind it");
        int[][] asked = {{149, 50, 0}, {150, 61, 0}, {151, 61, 1}};
        for (int[] one : asked) {
            BoilerRoll x = fired();
            accepted(x.plate(0, 0, 50, 150));
            file(x, 0, one[0], 61);
            due("entered behind the plate, day " + one[0], x.thick(0, 0, 0, 160, 200), one[1]);
            due("its doubt, day " + one[0], x.doubts(0, 0, 160, 200), one[2]);
        }
        int[][] ahead = {{149, 50, 0}, {150, 50, 0}, {151, 61, 1}};
        for (int[] one : ahead) {
            BoilerRoll x = fired();
            file(x, 0, one[0], 61);
            accepted(x.plate(0, 0, 50, 150));
            due("entered ahead of the plate, day " + one[0], x.thick(0, 0, 0, 160, 200), one[1]);
            due("its doubt, day " + one[0], x.doubts(0, 0, 160, 200), one[2]);
        }
    }

    private static void measureBetweenTwoPlates() {
        of("Terms 3", "if it is of the same DAY, entered behind it", "between two plates of that day");
        BoilerRoll x = fired();
        accepted(x.plate(0, 0, 50, 150));
        file(x, 0, 150, 61);
        accepted(x.plate(0, 0, 70, 150));
        due("thick", x.thick(0, 0, 0, 150, 200), 70);
        x.undo();
        due("thick without the second plate", x.thick(0, 0, 0, 150, 200), 61);
        accepted(x.plate(0, 0, 70, 149));
        due("a plate of an earlier day is not the last", x.thick(0, 0, 0, 150, 200), 61);
    }

    private static void oneDayTheLastAlone() {
        of("Terms 3", "by DAYS, of one DAY the LAST alone (a MEASURE in place of the PLATE)");
        BoilerRoll x = fired();
        file(x, 0, 150, 90);
        file(x, 0, 150, 80);
        due("the second of a day", x.thick(0, 0, 0, 150, 200), 80);
        due("what is ahead of it is the plate, not the first", x.thick(0, 0, 0, 155, 200), 78);
        file(x, 0, 150, 95);
        due("above the second of its day, no doubt", x.doubts(0, 0, 150, 200), 0);
        BoilerRoll y = fired();
        file(y, 0, 100, 95);
        due("in place of the plate", y.thick(0, 0, 0, 100, 200), 95);
        file(y, 0, 110, 96);
        due("the plate's own thickness is not ahead any more", y.doubts(0, 0, 110, 200), 1);
        file(y, 0, 100, 106);
        due("the second in its place is: one tenth a day", y.thick(0, 0, 0, 115, 200), 91);
        BoilerRoll z = fired();
        file(z, 0, 150, 90);
        file(z, 0, 170, 86);
        file(z, 0, 150, 126);
        due("two tenths a day since the second of day 150", z.thick(0, 0, 0, 171, 200), 84);
        file(z, 0, 149, 10);
        due("one of the day ahead of it is two ahead of the end", z.thick(0, 0, 0, 171, 200), 84);
        file(z, 0, 151, 105);
        due("one of the day behind it is next to the end", z.thick(0, 0, 0, 171, 200), 85);
        due("of 19 days, not 20", z.thick(0, 0, 0, 189, 200), 67);
        file(z, 0, 151, 106);
        due("of one day the last, next to the end, too", z.thick(0, 0, 0, 189, 200), 66);
    }

    private static void nothingAhead() {
        of("Terms 3", "what is ahead of it, if there is, (e0, m0)");
        BoilerRoll x = firedOn100();
        accepted(x.shape(0, 0, 1, 365, 1));
        x.pass(200);
        due("the plate alone: by the wear", x.thick(0, 0, 0, 110, 200), 90);
        file(x, 0, 100, 130);
        due("a measure in its place alone: by the wear", x.thick(0, 0, 0, 110, 200), 120);
        due("no doubt", x.doubts(0, 0, 110, 200), 0);
        file(x, 0, 101, 120);
        due("one day behind it there is one ahead", x.thick(0, 0, 0, 111, 200), 20);
        accepted(x.plate(0, 0, 70, 101));
        due("a new plate alone: by the wear", x.thick(0, 0, 0, 111, 200), 60);
    }

    private static void whatItGoesBy() {
        of("Terms 3", "What it goes by in a day is WEAR / 365, or (m0 - m) / (e - e0), if that is there and greater");
        int[][] asked = {{898, 796}, {899, 798}, {900, 800}, {901, 801}, {902, 802}, {1000, 900}, {1100, 1000}};
        for (int[] one : asked) {
            BoilerRoll x = fired();
            accepted(x.part(0, 0, 10, 10, 1000, 1000));
            accepted(x.shape(0, 1, 1, 365, 1));
            file(x, 1, 200, one[0]);
            due("1000, then " + one[0] + " in 100 days, then 100 days", x.thick(0, 1, 0, 300, 200), one[1]);
        }
        BoilerRoll x = fired();
        file(x, 0, 200, 100);
        due("without wear, nothing went", x.thick(0, 0, 0, LAST, 200), 100);
        file(x, 0, 200, 99);
        due("a tenth in 100 days, 99 days", x.thick(0, 0, 0, 299, 200), 98);
        due("a tenth in 100 days, 100 days", x.thick(0, 0, 0, 300, 200), 98);
        due("a tenth in 100 days, 101 days", x.thick(0, 0, 0, 301, 200), 97);
    }

    private static void thickIsCutDown() {
        of("Terms 3", "m less that times (d - e), cut down");
        BoilerRoll x = firedOn100();
        accepted(x.shape(0, 0, 1, 1, 1));
        int[][] asked = {{100, 100}, {101, 99}, {464, 99}, {465, 99}, {466, 98}, {829, 98}, {830, 98}, {831, 97}};
        for (int[] one : asked) {
            due("a tenth in 365 days, day " + one[0], x.thick(0, 0, 0, one[0], 100), one[1]);
        }
    }

    private static void thickIsNoLess() {
        of("Terms 3", "0 at least");
        BoilerRoll x = firedOn100();
        accepted(x.shape(0, 0, 1, 365, 1));
        int[][] asked = {{199, 1}, {200, 0}, {201, 0}, {LAST, 0}};
        for (int[] one : asked) {
            due("thick on " + one[0], x.thick(0, 0, 0, one[0], 100), one[1]);
            due("bears on " + one[0], x.bears(0, 0, one[0], 100), one[1]);
        }
        x.pass(200);
        file(x, 0, 200, 0);
        due("a measure of 0", x.thick(0, 0, 0, 200, 200), 0);
        due("and then", x.thick(0, 0, 0, 201, 200), 0);
        BoilerRoll y = fired();
        accepted(y.part(0, 4, 1, 1, 10000, 1000));
        accepted(y.shape(0, 1, 1, 1000, 1));
        file(y, 1, 101, 0);
        due("10000 tenths a day", y.thick(0, 1, 0, LAST, 200), 0);
    }

    private static void doubt() {
        of("Terms 3", "It is in DOUBT, if there is one ahead, and m is above m0");
        int[][] asked = {{99, 0}, {100, 0}, {101, 1}};
        for (int[] one : asked) {
            BoilerRoll x = fired();
            file(x, 0, 101, one[0]);
            due("100, then " + one[0], x.doubts(0, 0, 101, 200), one[1]);
            due("the day ahead", x.doubts(0, 0, 100, 200), 0);
        }
    }

    private static void howManyDoubts() {
        of("Promise 20", "How many spots of a part are in DOUBT");
        BoilerRoll x = fired();
        accepted(x.shape(0, 0, 12, 0, 1));
        int[] tenths = new int[12];
        for (int many = 0; many <= 12; many++) {
            for (int s = 0; s < 12; s++) {
                tenths[s] = s < many ? 101 : 100;
            }
            file(x, 0, 150, tenths);
            due("of 12, grown " + many, x.doubts(0, 0, 150, 200), many);
        }
        fileAllBut(x, 0, 160, 3, 90, 90, 90, 90);
        due("three of these less, the fourth not measured", x.doubts(0, 0, 160, 200), 9);
    }

    // ---- terms 4: what a part bears

    private static void leastSpot() {
        of("Terms 4", "A part BEARS (tenths of a pressure) by its least THICK spot t");
        for (int least = 0; least < 12; least++) {
            BoilerRoll x = fired();
            accepted(x.shape(0, 0, 12, 0, 1));
            int[] tenths = new int[12];
            for (int s = 0; s < 12; s++) {
                tenths[s] = s == least ? 60 : 61 + s;
            }
            file(x, 0, 150, tenths);
            due("the least is spot " + least, x.bears(0, 0, 150, 200), 60);
        }
        BoilerRoll x = fired();
        accepted(x.shape(0, 0, 2, 0, 1));
        fileAllBut(x, 0, 150, 0, 110, 105);
        due("the one not measured is the least", x.bears(0, 0, 150, 200), 100);
        file(x, 0, 160, 111, 112);
        due("both grown: what is no spot does not count", x.bears(0, 0, 160, 200), 111);
        due("part 0 alone", x.weakest(0, 160, 200), 0);
    }

    private static int borne(int kind, int strength, int radius, int thickness, int share, int safety) {
        BoilerRoll x = new BoilerRoll();
        accepted(x.vessel(0, safety, 0, 0));
        accepted(x.part(0, kind, strength, radius, thickness, share));
        return x.bears(0, 0, 0, 0);
    }

    private static void bearsIsCutDown() {
        of("Terms 4", "STRENGTH * t * SHARE * a / (1000 * RADIUS * SAFETY * b), cut down");
        due("20 / 3", borne(0, 10, 3, 2, 1000, 1), 6);
        due("30 / 3", borne(0, 10, 3, 3, 1000, 1), 10);
        due("40 / 3", borne(0, 10, 3, 4, 1000, 1), 13);
        due("999 / 1000", borne(0, 1, 1, 1, 999, 1), 0);
        due("1000 / 1000", borne(0, 1, 1, 1, 1000, 1), 1);
        due("39 / 20", borne(4, 39, 1, 1, 1000, 20), 1);
        due("40 / 20", borne(4, 40, 1, 1, 1000, 20), 2);
        due("the most", borne(0, 100000, 1, 10000, 1000, 1), 1000000000);
        due("the least", borne(0, 1, 100000, 1, 1, 20), 0);
        due("the most of a door", borne(3, 100000, 1, 10000, 1000, 1), 450000000);
        due("the most strength and radius", borne(0, 100000, 100000, 10000, 1000, 1), 10000);
    }

    private static void ofKinds() {
        of("Terms 4", "a / b is 1 / 1 for SHELL, TUBES, SEAM; 1 / 2 for END; 9 / 20 for DOOR");
        int[][] want = {{19, 9, 19, 8, 19}, {20, 10, 20, 9, 20}, {21, 10, 21, 9, 21}, {22, 11, 22, 9, 22}, {23, 11, 23, 10, 23}};
        for (int i = 0; i < want.length; i++) {
            for (int kind = 0; kind <= 4; kind++) {
                due("thickness " + (19 + i) + " of kind " + kind, borne(kind, 1, 1, 19 + i, 1000, 1), want[i][kind]);
            }
        }
    }

    private static void patchBounds() {
        of("Terms 4", "it bears no more than STRENGTH * THICKNESS * SHARE * 4 / (1000 * RADIUS * SAFETY * 5) of the PATCH (RADIUS, SAFETY as ever), cut down");
        int[][] asked = {{12, 0}, {13, 1}, {1237, 98}, {1238, 99}, {1249, 99}, {1250, 100}, {1251, 100}, {1263, 100}, {100000, 100}};
        for (int[] one : asked) {
            BoilerRoll x = fired();
            accepted(x.patch(0, 0, one[0], 1, 1000, 150));
            due("strength " + one[0], x.bears(0, 0, 150, 200), one[1]);
        }
        BoilerRoll x = fired();
        accepted(x.part(0, 1, 10, 10, 100, 1000));
        accepted(x.patch(0, 1, 500, 1, 1000, 150));
        due("of an end: without its half", x.bears(0, 1, 150, 200), 40);
        accepted(x.patch(0, 1, 25, 50, 500, 150));
        due("an end of 50", x.bears(0, 1, 150, 200), 50);
        accepted(x.patch(0, 0, 100000, 10000, 1000, 150));
        due("the most", x.bears(0, 0, 150, 200), 100);
        accepted(x.patch(0, 0, 10, 120, 1000, 150));
        due("a patch of 120", x.bears(0, 0, 150, 200), 96);
        due("the plate below it", x.thick(0, 0, 0, 150, 200), 100);
        accepted(x.patch(0, 0, 1, 1, 1, 150));
        due("the least", x.bears(0, 0, 150, 200), 0);
    }

    private static void patchOfAMeasuredPart() {
        of("Terms 4", "If the LAST MEND of a part is a PATCH, it bears no more than", "a measure is no mend");
        BoilerRoll x = fired();
        accepted(x.patch(0, 0, 500, 1, 1000, 150));
        due("40 of the patch", x.bears(0, 0, 160, 200), 40);
        file(x, 0, 160, 41);
        due("41 of the plate", x.bears(0, 0, 160, 200), 40);
        file(x, 0, 160, 40);
        due("40 of the plate", x.bears(0, 0, 160, 200), 40);
        file(x, 0, 160, 39);
        due("39 of the plate", x.bears(0, 0, 160, 200), 39);
        accepted(x.plate(0, 0, 90, 160));
        due("a new plate of that day", x.bears(0, 0, 160, 200), 90);
        due("the day ahead of it", x.bears(0, 0, 159, 200), 40);
    }

    private static void allPlugged() {
        of("Terms 4", "if all are, the part bears BEYOND (1000000)");
        for (int many : new int[] {1, 2, 10, 500}) {
            BoilerRoll x = fired();
            accepted(x.part(0, 2, 10, 10, 33, 1000));
            accepted(x.shape(0, 1, 1, 0, many));
            due("none of " + many + ", without a plug", x.bears(0, 1, 150, 200), 33);
            accepted(x.plug(0, 1, many - 1, 150));
            due("all but one of " + many, x.bears(0, 1, 150, 200), 33);
            accepted(x.plug(0, 1, many, 150));
            due("all of " + many, x.bears(0, 1, 150, 200), 1000000);
            due("the day ahead", x.bears(0, 1, 149, 200), 33);
        }
        BoilerRoll x = fired();
        accepted(x.part(0, 2, 100000, 1, 10000, 1000));
        due("tubes that bear more", x.bears(0, 1, 150, 200), 1000000000);
        accepted(x.plug(0, 1, 1, 150));
        due("all of them plugged", x.bears(0, 1, 150, 200), 1000000);
    }

    private static void lastPlug() {
        of("Terms 4", "of MANY some are PLUGGED (as the LAST plug() tells; 0 without)");
        BoilerRoll x = fired();
        accepted(x.part(0, 2, 10, 10, 100, 1000));
        accepted(x.shape(0, 1, 1, 0, 10));
        due("without", x.holds(0, 4, 200, 200), 0);
        accepted(x.plug(0, 1, 10, 150));
        due("the day ahead of it", x.holds(0, 4, 149, 200), 0);
        due("on its day", x.holds(0, 4, 150, 200), 10);
        accepted(x.plug(0, 1, 0, 151));
        due("none any more", x.holds(0, 4, 151, 200), 0);
        due("the day ahead of that", x.holds(0, 4, 150, 200), 10);
        due("they do not add up", x.bears(0, 1, 151, 200), 100);
    }

    // ---- terms 5: papers

    private static void stopsFromItsDay() {
        of("Terms 5", "it STOPS from its DAY on, until there is a FREE");
        for (int kind = 0; kind <= 3; kind++) {
            BoilerRoll x = fired();
            accepted(x.paper(0, kind, 0, 1, 150));
            int[][] asked = {{100, 0}, {149, 0}, {150, 2}, {151, 2}, {200, 2}, {LAST, 2}};
            for (int[] one : asked) {
                due("kind " + kind + ", day " + one[0], x.why(0, one[0], 200), one[1]);
            }
        }
    }

    private static void sold() {
        of("Terms 5", "SOLD: the OWNER is WHO from its DAY on");
        BoilerRoll x = fired();
        accepted(x.paper(0, 5, 0, 9, 150));
        accepted(x.paper(0, 5, 999, 0, 160));
        accepted(x.paper(0, 4, 5, 0, 170));
        int[][] asked = {{100, 7}, {149, 7}, {150, 0}, {151, 0}, {159, 0}, {160, 999}, {170, 999}, {LAST, 999}};
        for (int[] one : asked) {
            due("on " + one[0], x.holds(0, 5, one[0], 200), one[1]);
        }
    }

    private static void goodAndStops() {
        of("Terms 5", "A LOOK or TEST is GOOD if FOUND is 0; else, and each STOP, it STOPS");
        for (int kind = 0; kind <= 5; kind++) {
            for (int found : new int[] {0, 1, 9999}) {
                BoilerRoll x = fired();
                accepted(x.paper(0, kind, 0, found, 150));
                boolean stops = kind == 3 || kind <= 2 && found > 0;
                due("kind " + kind + ", found " + found, x.why(0, 150, 200), stops ? 2 : 0);
                if (kind <= 2) {
                    due("due of kind " + kind + ", found " + found, x.due(0, kind, 150, 200), found == 0 ? 4150 : 4100);
                }
            }
        }
    }

    private static void freed() {
        of("Terms 5", "until there is a FREE of a DAY not ahead of it, entered behind it");
        int[][] behind = {{149, 2, 2, 2}, {150, 0, 0, 0}, {151, 2, 0, 0}};
        for (int[] one : behind) {
            BoilerRoll x = fired();
            accepted(x.paper(0, 3, 0, 0, 150));
            accepted(x.paper(0, 4, 0, 0, one[0]));
            due("free of " + one[0] + ", day 149", x.why(0, 149, 200), 0);
            for (int day = 150; day <= 152; day++) {
                due("free of " + one[0] + ", day " + day, x.why(0, day, 200), one[day - 149]);
            }
        }
        for (int day : new int[] {149, 150, 151, 200}) {
            BoilerRoll x = fired();
            accepted(x.paper(0, 4, 0, 0, day));
            accepted(x.paper(0, 3, 0, 0, 150));
            due("a free of " + day + ", entered ahead of it", x.why(0, 200, 200), 2);
        }
    }

    private static void freedOfMany() {
        of("Terms 5", "until there is a FREE of a DAY not ahead of it, entered behind it", "several stops");
        BoilerRoll x = fired();
        accepted(x.paper(0, 3, 0, 0, 150));
        accepted(x.paper(0, 0, 0, 1, 160));
        accepted(x.paper(0, 4, 0, 0, 159));
        due("from the first on", x.why(0, 158, 200), 2);
        due("the first is freed", x.why(0, 159, 200), 0);
        due("the second is not", x.why(0, 160, 200), 2);
        accepted(x.paper(0, 3, 0, 0, 140));
        due("a stop entered behind the free", x.why(0, 159, 200), 2);
        accepted(x.paper(0, 4, 0, 0, 160));
        due("all are free", x.why(0, 160, 200), 0);
        due("but not ahead of that", x.why(0, 159, 200), 2);
        accepted(x.paper(0, 4, 0, 0, 200));
        accepted(x.paper(0, 2, 0, 1, 199));
        due("a stop entered behind a free of a later day", x.why(0, 200, 200), 2);
    }

    /** A stop of 150; a mend and a good test of days: what why() tells on 150, 151, 152. */
    private static void mended(int mend, int test, int... want) {
        for (int order = 0; order < 6; order++) {
            BoilerRoll x = fired();
            accepted(x.part(0, 0, 10, 10, 100, 1000));
            for (int step = 0; step < 3; step++) {
                int act = order < 3 ? (order + step) % 3 : (order + 3 - step) % 3;
                if (act == 0) {
                    accepted(x.paper(0, order % 2 == 0 ? 3 : 1, 0, 1, 150));
                } else if (act == 1) {
                    accepted(order % 2 == 0 ? x.plate(0, 1, 100, mend) : x.patch(0, 0, 9999, 9999, 1000, mend));
                } else {
                    accepted(x.paper(0, 2, 0, 0, test));
                }
            }
            for (int day = 150; day <= 152; day++) {
                String told = "mend of " + mend + ", test of " + test + ", order " + order + ", day " + day;
                due(told, x.why(0, day, 200), want[day - 150]);
            }
        }
    }

    private static void mendsAndTests() {
        of("Terms 5", "or a MEND of a DAY not ahead of it, and a GOOD TEST of a DAY not ahead of that MEND's (a mend of any part of the vessel; entered when they may)");
        mended(149, 149, 2, 2, 2);
        mended(149, 152, 2, 2, 2);
        mended(150, 149, 2, 2, 2);
        mended(150, 150, 0, 0, 0);
        mended(150, 151, 2, 0, 0);
        mended(150, 152, 2, 2, 0);
        mended(151, 150, 2, 2, 2);
        mended(151, 151, 2, 0, 0);
        mended(151, 152, 2, 2, 0);
        mended(152, 152, 2, 2, 0);
    }

    private static void mendsOfTwo() {
        of("Terms 5", "a MEND of a DAY not ahead of it, and a GOOD TEST of a DAY not ahead of that MEND's",
                "several mends");
        BoilerRoll x = fired();
        accepted(x.paper(0, 3, 0, 0, 150));
        accepted(x.paper(0, 2, 0, 0, 155));
        accepted(x.plate(0, 0, 100, 149));
        due("the one ahead of the stop was tested", x.why(0, 155, 200), 2);
        accepted(x.plate(0, 0, 100, 156));
        due("the one behind it was not", x.why(0, 156, 200), 2);
        accepted(x.plate(0, 0, 100, 155));
        due("the one between was", x.why(0, 155, 200), 0);
        due("the last one was not", x.why(0, 156, 200), 6);
        accepted(x.paper(0, 2, 0, 0, 156));
        due("the last one was, too", x.why(0, 156, 200), 0);
        accepted(x.vessel(1, 1, 1, 100));
        accepted(x.paper(1, 3, 0, 0, 150));
        accepted(x.paper(1, 2, 0, 0, 160));
        due("a mend of another vessel", x.why(1, 160, 200), 2);
    }

    private static void testsThatFound() {
        of("Terms 5", "a GOOD TEST of a DAY not ahead of that MEND's", "one that found is none");
        BoilerRoll x = fired();
        accepted(x.paper(0, 3, 0, 0, 150));
        accepted(x.plate(0, 0, 100, 150));
        accepted(x.paper(0, 0, 0, 0, 150));
        accepted(x.paper(0, 1, 0, 0, 150));
        due("good looks", x.why(0, 150, 200), 2);
        accepted(x.paper(0, 2, 0, 1, 150));
        due("a test that found", x.why(0, 150, 200), 2);
        accepted(x.paper(0, 2, 0, 0, 150));
        due("a good one", x.why(0, 150, 200), 0);
    }

    private static void dueDays() {
        of("Terms 5", "g and so many days more [..] tells for YOUNG, if g is less than 7300 days behind BUILT, else for OLD");
        int[][] asked = {{7298, 10}, {7299, 10}, {7300, 20}, {7301, 20}};
        for (int[] one : asked) {
            for (int kind = 0; kind <= 2; kind++) {
                BoilerRoll x = fired();
                x.pass(8000);
                accepted(x.paper(0, kind, 0, 0, 100 + one[0]));
                accepted(x.rule(kind, 10, 20));
                due("kind " + kind + ", " + one[0] + " days behind BUILT", x.due(0, kind, 8000, 8000), 100 + one[0] + one[1]);
            }
        }
        BoilerRoll x = fired();
        accepted(x.rule(0, 10, 20));
        due("BUILT without a paper, on a day long behind it", x.due(0, 0, LAST, 200), 110);
    }

    private static void dueWithoutARule() {
        of("Terms 5", "(both 365 without a rule)");
        BoilerRoll x = new BoilerRoll();
        x.pass(8000);
        accepted(x.vessel(0, 1, 0, 0));
        accepted(x.paper(0, 0, 0, 0, 7299));
        accepted(x.paper(0, 1, 0, 0, 7300));
        accepted(x.paper(0, 2, 0, 1, 7300));
        accepted(x.rule(1, 5, 7));
        due("young", x.due(0, 0, 8000, 8000), 7664);
        due("BUILT", x.due(0, 2, 8000, 8000), 365);
        x.undo();
        due("old", x.due(0, 1, 8000, 8000), 7665);
    }

    private static void ruleEnteredLast() {
        of("Terms 5", "the rule of the kind that was entered last (of those known)");
        BoilerRoll x = firedOn100();
        accepted(x.rule(1, 30, 30));
        x.pass(200);
        accepted(x.rule(1, 20, 20));
        accepted(x.rule(0, 9, 9));
        x.pass(200);
        accepted(x.rule(1, 10, 10));
        x.pass(300);
        accepted(x.rule(1, 5, 5));
        int[][] asked = {{100, 130}, {199, 130}, {200, 110}, {299, 110}, {300, 105}, {LAST, 105}};
        for (int[] one : asked) {
            due("as known on " + one[0], x.due(0, 1, 100, one[0]), one[1]);
            due("another kind, as known on " + one[0], x.due(0, 2, 100, one[0]), 4100);
        }
        BoilerRoll y = new BoilerRoll();
        accepted(y.rule(0, 5, 5));
        accepted(y.vessel(0, 1, 0, 0));
        due("one entered ahead of any vessel", y.due(0, 0, 0, 0), 5);
    }

    // ---- terms 7: why

    private static void theFirstReason() {
        of("Terms 7", "WHY on day d, as known on k, the first of");
        BoilerRoll x = new BoilerRoll();
        x.pass(100);
        accepted(x.vessel(7, 1, 10, 100));
        accepted(x.part(0, 2, 10, 10, 100, 1000));
        accepted(x.shape(0, 0, 1, 0, 10));
        x.pass(700);
        accepted(x.plug(0, 0, 2, 600));
        accepted(x.plate(0, 0, 100, 600));
        accepted(x.paper(0, 3, 0, 0, 600));
        due("all of them, not known", x.why(0, 600, 99), 1);
        due("all of them", x.why(0, 600, 700), 2);
        accepted(x.paper(0, 4, 0, 0, 600));
        due("freed", x.why(0, 600, 700), 3);
        accepted(x.paper(0, 0, 0, 0, 600));
        due("looked at from outside", x.why(0, 600, 700), 4);
        accepted(x.paper(0, 1, 0, 0, 600));
        due("looked at inside", x.why(0, 600, 700), 5);
        accepted(x.paper(0, 2, 0, 0, 599));
        due("tested ahead of the mend", x.why(0, 600, 700), 6);
        accepted(x.paper(0, 2, 0, 0, 600));
        due("tested", x.why(0, 600, 700), 7);
        accepted(x.valve(0, 101, 7, 600));
        due("a valve", x.why(0, 600, 700), 8);
        accepted(x.set(0, 0, 100, 600));
        due("set lower", x.why(0, 600, 700), 9);
        accepted(x.valve(0, 90, 1, 600));
        due("another valve", x.why(0, 600, 700), 10);
        accepted(x.plug(0, 0, 1, 600));
        due("one plug less: 80 of 90", x.why(0, 600, 700), 9);
        accepted(x.valve(0, 95, 1, 600));
        due("a third valve", x.why(0, 600, 700), 0);
        due("the least setting", x.may(0, 600, 700), 90);
    }

    private static void notYetThere() {
        of("Terms 7", "1 d is ahead of BUILT, or the vessel is not known on k");
        BoilerRoll x = fired();
        accepted(x.vessel(1, 1, 0, 150));
        x.pass(300);
        int[][] asked = {{149, 200, 1}, {150, 200, 7}, {151, 200, 7}, {150, 199, 1}, {150, 201, 7}, {0, 0, 1}, {LAST, 199, 1}};
        for (int[] one : asked) {
            due("day " + one[0] + ", known on " + one[1], x.why(1, one[0], one[1]), one[2]);
        }
    }

    private static void behindDue() {
        of("Terms 7", "3, 4, 5 d is behind DUE of kind 0, 1, 2");
        for (int kind = 0; kind <= 2; kind++) {
            BoilerRoll x = fired();
            accepted(x.rule(kind, 60, 60));
            due("kind " + kind + ", the day ahead of DUE", x.why(0, 159, 200), 0);
            due("kind " + kind + ", on DUE", x.why(0, 160, 200), 0);
            due("kind " + kind + ", the day behind DUE", x.why(0, 161, 200), 3 + kind);
            accepted(x.paper(0, kind, 0, 0, 161));
            due("kind " + kind + ", a paper of that day", x.why(0, 161, 200), 0);
        }
    }

    private static void untestedMend() {
        of("Terms 7", "6 there is a MEND, and no GOOD TEST of a DAY not ahead of the LAST MEND's (of all parts)");
        int[][] asked = {{149, 6, 6, 6}, {150, 0, 0, 0}, {151, 6, 0, 0}, {152, 6, 6, 0}};
        for (int[] one : asked) {
            BoilerRoll x = fired();
            accepted(x.part(0, 0, 10, 10, 100, 1000));
            due("no mend", x.why(0, 150, 200), 0);
            accepted(x.paper(0, 2, 0, 0, one[0]));
            accepted(x.plate(0, 1, 100, 120));
            accepted(x.patch(0, 0, 9999, 9999, 1000, 150));
            accepted(x.plate(0, 1, 100, 130));
            due("ahead of the mends", x.why(0, 119, 200), 0);
            for (int day = 150; day <= 152; day++) {
                due("a test of " + one[0] + ", day " + day, x.why(0, day, 200), one[day - 149]);
            }
        }
    }

    private static void noValve() {
        of("Terms 7", "7 no VALVE is there");
        BoilerRoll x = new BoilerRoll();
        x.pass(10);
        accepted(x.vessel(0, 1, 0, 0));
        due("none", x.why(0, 4, 10), 7);
        accepted(x.valve(0, 1, 1, 5));
        due("the day ahead of it", x.why(0, 4, 10), 7);
        due("on its day", x.why(0, 5, 10), 0);
        due("the day behind it", x.why(0, 6, 10), 0);
        accepted(x.set(0, 0, 10000, 5));
        due("without parts none is too weak", x.why(0, 5, 10), 0);
        due("and it may be fired", x.may(0, 5, 10), 10000);
    }

    private static void tooWeak() {
        of("Terms 7", "8 + 16 * p: the first part p that BEARS less than the greatest SETTING");
        int[][] asked = {{99, 0}, {100, 0}, {101, 8}};
        for (int[] one : asked) {
            BoilerRoll x = fired();
            accepted(x.set(0, 0, one[0], 150));
            due("100 against " + one[0], x.why(0, 150, 200), one[1]);
        }
        BoilerRoll x = fired();
        for (int p = 1; p < 24; p++) {
            accepted(x.part(0, 4, 10, 10, 200 - p, 1000));
        }
        accepted(x.set(0, 0, 1, 150));
        due("all bear 1", x.why(0, 150, 200), 0);
        accepted(x.valve(0, 100, 1, 150));
        due("all bear 100", x.why(0, 150, 200), 0);
        file(x, 23, 150, 99);
        due("the last part bears 99", x.why(0, 150, 200), 8 + 16 * 23);
        file(x, 22, 150, 98);
        due("the one ahead of it 98", x.why(0, 150, 200), 8 + 16 * 22);
        file(x, 1, 150, 99);
        due("part 1 bears 99", x.why(0, 150, 200), 8 + 16);
        file(x, 0, 150, 99);
        due("part 0 bears 99", x.why(0, 150, 200), 8);
        accepted(x.set(0, 1, 98, 150));
        due("the greatest of 1 and 98", x.why(0, 150, 200), 0);
    }

    private static void tooMuchFire() {
        of("Terms 7", "(without TUBES: PASSES below MAKES)");
        for (int makes : new int[] {0, 1, 9, 10, 11, 100000}) {
            BoilerRoll x = new BoilerRoll();
            accepted(x.vessel(0, 1, makes, 0));
            accepted(x.valve(0, 1, 10, 0));
            due("10 against " + makes, x.why(0, 0, 0), makes > 10 ? 9 : 0);
        }
        BoilerRoll x = new BoilerRoll();
        accepted(x.vessel(0, 1, 100000, 0));
        accepted(x.valve(0, 1, 60000, 0));
        accepted(x.valve(0, 1, 39999, 0));
        due("together 99999", x.why(0, 0, 0), 9);
        accepted(x.valve(0, 1, 1, 0));
        due("together 100000", x.why(0, 0, 0), 0);
    }

    private static BoilerRoll tubed(int makes, int passes, int many, int plugged) {
        BoilerRoll x = new BoilerRoll();
        accepted(x.vessel(0, 1, makes, 0));
        accepted(x.part(0, 2, 10, 1, 10, 1000));
        accepted(x.shape(0, 0, 1, 0, many));
        accepted(x.valve(0, 1, passes, 0));
        accepted(x.plug(0, 0, plugged, 0));
        return x;
    }

    private static void tooMuchFireForTubes() {
        of("Terms 7", "9 the VALVES' PASSES together, times all TUBES of the vessel (MANY), are below MAKES times those not PLUGGED");
        due("10 * 10 against 10 * 10", tubed(10, 10, 10, 0).why(0, 0, 0), 0);
        due("10 * 10 against 11 * 10", tubed(11, 10, 10, 0).why(0, 0, 0), 9);
        due("9 * 10 against 10 * 9", tubed(10, 9, 10, 1).why(0, 0, 0), 0);
        due("8 * 10 against 10 * 9", tubed(10, 8, 10, 1).why(0, 0, 0), 9);
        due("89 * 100 against 99 * 90", tubed(99, 89, 100, 10).why(0, 0, 0), 9);
        due("90 * 100 against 100 * 90", tubed(100, 90, 100, 10).why(0, 0, 0), 0);
        due("1 * 1 against 100000 * 0", tubed(100000, 1, 1, 1).why(0, 0, 0), 10);
        due("99999 * 500 against 100000 * 500", tubed(100000, 99999, 500, 0).why(0, 0, 0), 9);
        due("100000 * 500 against 100000 * 500", tubed(100000, 100000, 500, 0).why(0, 0, 0), 0);
        BoilerRoll x = tubed(10, 9, 5, 0);
        accepted(x.part(0, 2, 10, 1, 10, 1000));
        accepted(x.shape(0, 1, 1, 0, 5));
        accepted(x.part(0, 0, 10, 1, 10, 1000));
        due("9 * 10 against 10 * 10, of two parts", x.why(0, 0, 0), 9);
        accepted(x.plug(0, 1, 1, 0));
        due("9 * 10 against 10 * 9, of two parts", x.why(0, 0, 0), 0);
        BoilerRoll y = tubed(100000, 100000, 500, 0);
        for (int p = 1; p < 24; p++) {
            accepted(y.part(0, 2, 10, 1, 10, 1000));
            accepted(y.shape(0, p, 1, 0, 500));
        }
        due("100000 * 12000 against as many", y.why(0, 0, 0), 0);
        for (int i = 1; i < 6; i++) {
            accepted(y.valve(0, 1, 100000, 0));
        }
        due("600000 * 12000, above the ints", y.why(0, 0, 0), 0);
    }

    private static void tooManyPlugs() {
        of("Terms 7", "10 ten times the PLUGGED are above all TUBES");
        due("0 of 1", tubed(0, 1, 1, 0).why(0, 0, 0), 0);
        due("1 of 1", tubed(0, 1, 1, 1).why(0, 0, 0), 10);
        due("1 of 9", tubed(0, 1, 9, 1).why(0, 0, 0), 10);
        due("1 of 10", tubed(0, 1, 10, 1).why(0, 0, 0), 0);
        due("1 of 11", tubed(0, 1, 11, 1).why(0, 0, 0), 0);
        due("2 of 19", tubed(0, 1, 19, 2).why(0, 0, 0), 10);
        due("2 of 20", tubed(0, 1, 20, 2).why(0, 0, 0), 0);
        due("50 of 500", tubed(0, 1, 500, 50).why(0, 0, 0), 0);
        due("51 of 500", tubed(0, 1, 500, 51).why(0, 0, 0), 10);
        BoilerRoll x = tubed(0, 1, 7, 1);
        accepted(x.part(0, 2, 10, 1, 10, 1000));
        accepted(x.shape(0, 1, 1, 0, 2));
        due("1 of 7 and 2", x.why(0, 0, 0), 10);
        accepted(x.shape(0, 1, 1, 0, 3));
        due("1 of 7 and 3", x.why(0, 0, 0), 0);
        accepted(x.plug(0, 1, 1, 0));
        due("2 of 7 and 3", x.why(0, 0, 0), 10);
    }

    // ---- promises 19 to 31: none such

    private static final int[] NO_DAYS = {LEAST, -1, 40001, MOST};

    /** What asks a vessel (built on 150, entered on 200) that is there: NONE where it is not, or no day. */
    private static void noneOf(String what, Ask ask, Call ofVessel) {
        BoilerRoll x = other();
        for (int v : new int[] {LEAST, -1, 2, 30, MOST}) {
            due(what + " of vessel " + v, ofVessel.on(x, v), NONE);
        }
        due(what + " of vessel 1, whether it is told", ofVessel.on(x, 1) >= 0 ? 1 : 0, 1);
        for (int n : NO_DAYS) {
            due(what + " of day " + n, ask.of(x, n, 200), NONE);
            due(what + " known on " + n, ask.of(x, 150, n), NONE);
        }
        int[][] asked = {{149, 200, 0}, {150, 200, 1}, {151, 200, 1}, {LAST, 200, 1}, {150, 199, 0}, {150, 201, 1},
            {150, LAST, 1}, {LAST, LAST, 1}, {LAST, 199, 0}, {149, LAST, 0}, {0, 0, 0}};
        for (int[] one : asked) {
            String told = what + " of day " + one[0] + ", known on " + one[1] + ", whether it is told";
            due(told, ask.of(x, one[0], one[1]) == NONE ? 0 : 1, one[2]);
        }
    }

    /** Vessel 1 is built on 150 and entered on 200, with part 0 of three spots and part 1. Today is 300. */
    private static BoilerRoll other() {
        BoilerRoll x = fired();
        accepted(x.vessel(8, 1, 0, 150));
        accepted(x.part(1, 0, 10, 10, 100, 1000));
        accepted(x.shape(1, 0, 3, 0, 1));
        accepted(x.part(1, 0, 10, 10, 90, 1000));
        accepted(x.valve(1, 101, 1, 150));
        x.pass(300);
        return x;
    }

    private static void thickOfNone() {
        of("Promise 19", "NONE: no such vessel, part (as known), spot, day (both 0 .. 40000), or the day is ahead of BUILT");
        noneOf("thick", (x, d, k) -> x.thick(1, 0, 0, d, k), (x, v) -> x.thick(v, 0, 0, 150, 200));
        BoilerRoll x = other();
        for (int n : new int[] {LEAST, -1, 0, 1, 2, 3, 12, MOST}) {
            due("part " + n, x.thick(1, n, 0, 150, 200), n == 0 ? 100 : n == 1 ? 90 : NONE);
            due("spot " + n, x.thick(1, 0, n, 150, 200), n >= 0 && n <= 2 ? 100 : NONE);
            due("spot " + n + " of part 1", x.thick(1, 1, n, 150, 200), n == 0 ? 90 : NONE);
        }
    }

    private static void doubtsOfNone() {
        of("Promise 20", "NONE as above");
        noneOf("doubts", (x, d, k) -> x.doubts(1, 0, d, k), (x, v) -> x.doubts(v, 0, 150, 200));
        BoilerRoll x = other();
        for (int n : new int[] {LEAST, -1, 0, 1, 2, 24, MOST}) {
            due("part " + n, x.doubts(1, n, 150, 200), n == 0 || n == 1 ? 0 : NONE);
        }
    }

    private static void bearsOfNone() {
        of("Promise 21", "NONE as above");
        noneOf("bears", (x, d, k) -> x.bears(1, 0, d, k), (x, v) -> x.bears(v, 0, 150, 200));
        BoilerRoll x = other();
        for (int n : new int[] {LEAST, -1, 0, 1, 2, 24, MOST}) {
            due("part " + n, x.bears(1, n, 150, 200), n == 0 ? 100 : n == 1 ? 90 : NONE);
        }
    }

    private static void weakestOfNone() {
        of("Promise 22", "NONE as above, or without parts");
        noneOf("weakest", (x, d, k) -> x.weakest(1, d, k), (x, v) -> x.weakest(v, 150, 200));
        BoilerRoll x = fired();
        accepted(x.vessel(8, 1, 0, 150));
        due("without parts", x.weakest(1, 150, 200), NONE);
        accepted(x.part(1, 0, 1, 100000, 1, 1));
        due("one that bears 0", x.weakest(1, 150, 200), 0);
    }

    private static void firstOfTheWeakest() {
        of("Promise 22", "The part that bears least (the first of these)");
        BoilerRoll x = fired();
        for (int p = 1; p < 24; p++) {
            accepted(x.part(0, 0, 10, 10, 100, 1000));
        }
        due("all alike", x.weakest(0, 150, 200), 0);
        file(x, 23, 150, 99);
        due("the last one", x.weakest(0, 150, 200), 23);
        file(x, 22, 150, 99);
        due("the two last ones alike", x.weakest(0, 150, 200), 22);
        file(x, 5, 150, 100);
        due("one a tenth above them", x.weakest(0, 150, 200), 22);
        file(x, 5, 150, 98);
        due("one a tenth below them", x.weakest(0, 150, 200), 5);
    }

    private static void holdsOfNone() {
        of("Promise 23", "NONE: no such vessel as known, day, what; of 0, 1 without VALVES; or the day is ahead of BUILT",
                "no such one");
        for (int what = 0; what <= 5; what++) {
            int w = what;
            noneOf("what " + w, (x, d, k) -> x.holds(1, w, d, k), (x, v) -> x.holds(v, w, 150, 200));
        }
        BoilerRoll x = other();
        for (int what : new int[] {LEAST, -1, 6, 7, MOST}) {
            due("what " + what, x.holds(1, what, 150, 200), NONE);
        }
    }

    private static void holdsWithoutValves() {
        of("Promise 23", "NONE: no such vessel as known, day, what; of 0, 1 without VALVES; or the day is ahead of BUILT",
                "without valves");
        BoilerRoll x = fired();
        accepted(x.vessel(8, 1, 0, 150));
        int[] bare = {NONE, NONE, 0, 0, 0, 8};
        int[] valved = {30, 30, 5, 0, 0, 8};
        for (int what = 0; what <= 5; what++) {
            due("without, what " + what, x.holds(1, what, 160, 200), bare[what]);
        }
        accepted(x.valve(1, 30, 5, 160));
        for (int what = 0; what <= 5; what++) {
            due("the day ahead of it, what " + what, x.holds(1, what, 159, 200), bare[what]);
            due("with one, what " + what, x.holds(1, what, 160, 200), valved[what]);
        }
    }

    private static void greatestAndLeast() {
        of("Promise 23", "The greatest (what 0), least SETTING (1) of VALVES that are there, what they PASS together (2)");
        BoilerRoll x = fired();
        int[] settings = {50, 49, 51, 50, 1, 10000};
        int[] greatest = {50, 50, 51, 51, 51, 10000};
        int[] least = {50, 49, 49, 49, 1, 1};
        int[] passes = {10, 100, 1000, 10000, 100000, 100000};
        int together = 0;
        for (int i = 0; i < 6; i++) {
            if (i > 0) {
                accepted(x.valve(0, settings[i], passes[i], 150));
            }
            together += passes[i];
            due("greatest of " + (i + 1), x.holds(0, 0, 150, 200), greatest[i]);
            due("least of " + (i + 1), x.holds(0, 1, 150, 200), least[i]);
            due("together of " + (i + 1), x.holds(0, 2, 150, 200), together);
        }
        due("may not: a part is too weak", x.may(0, 150, 200), 0);
    }

    private static void tubesAndPlugged() {
        of("Promise 23", "TUBES (3), those PLUGGED (4), the OWNER (5)");
        BoilerRoll x = fired();
        due("no tubes", x.holds(0, 3, 150, 200), 0);
        int tubes = 0;
        for (int p = 1; p < 24; p++) {
            accepted(x.part(0, p % 5, 10, 10, 100, 1000));
            if (p % 5 == 2) {
                accepted(x.shape(0, p, 1, 0, 501 - p));
                accepted(x.plug(0, p, 1, 150));
                tubes += 501 - p;
            }
        }
        due("tubes of five parts", x.holds(0, 3, 150, 200), tubes);
        due("plugged of five parts", x.holds(0, 4, 150, 200), 5);
        due("the day ahead", x.holds(0, 4, 149, 200), 0);
        accepted(x.plug(0, 22, 479, 150));
        due("all of one part", x.holds(0, 4, 150, 200), 483);
        due("the owner", x.holds(0, 5, 150, 200), 7);
    }

    private static void atTheLeastSetting() {
        of("Terms 7", "else 0: it MAY be fired, at the least SETTING");
        BoilerRoll x = fired();
        due("of one valve", x.may(0, 150, 200), 50);
        accepted(x.valve(0, 49, 1, 150));
        due("of two", x.may(0, 150, 200), 49);
        due("the day ahead", x.may(0, 149, 200), 50);
        accepted(x.set(0, 1, 51, 151));
        due("the other one is less", x.may(0, 151, 200), 50);
        accepted(x.set(0, 1, 50, 151));
        due("both alike", x.may(0, 151, 200), 50);
        accepted(x.set(0, 0, 100, 152));
        due("the greatest as much as it bears", x.may(0, 152, 200), 50);
        accepted(x.set(0, 0, 101, 153));
        due("the greatest above what it bears", x.may(0, 153, 200), 0);
    }

    private static void valvesOfADayEach() {
        of("Terms 6", "each is there from its DAY on; its SETTING is what the LAST of valve() and set() tells");
        BoilerRoll x = fired();
        accepted(x.valve(0, 60, 100, 160));
        accepted(x.valve(0, 70, 1000, 150));
        accepted(x.set(0, 1, 90, 161));
        accepted(x.set(0, 2, 65, 150));
        accepted(x.set(0, 1, 80, 160));
        int[][] want = {{149, 50, 10}, {150, 65, 1010}, {159, 65, 1010}, {160, 80, 1110}, {161, 90, 1110}};
        for (int[] one : want) {
            due("greatest on " + one[0], x.holds(0, 0, one[0], 200), one[1]);
            due("together on " + one[0], x.holds(0, 2, one[0], 200), one[2]);
        }
    }

    private static void dueOfNone() {
        of("Promise 24", "NONE: no such kind, or as above");
        for (int kind = 0; kind <= 2; kind++) {
            int n = kind;
            noneOf("kind " + n, (x, d, k) -> x.due(1, n, d, k), (x, v) -> x.due(v, n, 150, 200));
        }
        BoilerRoll x = other();
        for (int kind : new int[] {LEAST, -1, 3, 4, 5, MOST}) {
            due("kind " + kind, x.due(1, kind, 150, 200), NONE);
        }
    }

    private static void dueAbove40000() {
        of("Promise 24", "DUE of kind 0, 1, 2 (also above 40000)");
        BoilerRoll x = new BoilerRoll();
        x.pass(LAST);
        accepted(x.vessel(0, 1, 0, LAST));
        accepted(x.rule(0, 4000, 1));
        accepted(x.rule(1, 1, 4000));
        due("44000", x.due(0, 0, LAST, LAST), 44000);
        due("40001", x.due(0, 1, LAST, LAST), 40001);
        due("without a rule", x.due(0, 2, LAST, LAST), 40365);
        accepted(x.vessel(0, 1, 0, LAST - 1));
        due("40000", x.due(1, 1, LAST, LAST), LAST);
        due("43999", x.due(1, 0, LAST, LAST), 43999);
    }

    /** Of why() and those like it: NONE of no vessel at all, or no day; else what is told of one that is not there. */
    private static void noneAtAll(String what, Ask ask, Call ofVessel, int notThere) {
        BoilerRoll x = other();
        for (int v : new int[] {LEAST, -1, 2, 30, MOST}) {
            due(what + " of vessel " + v, ofVessel.on(x, v), NONE);
        }
        due(what + " of vessel 1", ofVessel.on(x, 1), notThere);
        for (int n : NO_DAYS) {
            due(what + " of day " + n, ask.of(x, n, 200), NONE);
            due(what + " known on " + n, ask.of(x, 150, n), NONE);
        }
        int[][] asked = {{149, 200}, {0, 200}, {150, 199}, {150, 0}, {0, 0}, {LAST, 199}, {149, LAST}};
        for (int[] one : asked) {
            due(what + " of day " + one[0] + ", known on " + one[1], ask.of(x, one[0], one[1]), notThere);
        }
    }

    private static void whyOfNone() {
        of("Promise 25", "NONE: no such vessel (at all), or day");
        noneAtAll("why", (x, d, k) -> x.why(1, d, k), (x, v) -> x.why(v, 149, 200), 1);
        due("of one that is there", other().why(1, 150, 200), 8);
    }

    private static void mayOfNone() {
        of("Promise 26", "0 if it may not. NONE as of why()");
        noneAtAll("may", (x, d, k) -> x.may(1, d, k), (x, v) -> x.may(v, 149, 200), 0);
        due("of one that is there, but weak", other().may(1, 150, 200), 0);
        due("of one that may", other().may(0, 150, 200), 50);
    }

    private static void untilOfNone() {
        of("Promise 27", "NONE if it may not on this one, or as of why()");
        noneAtAll("until", (x, d, k) -> x.until(1, d, k), (x, v) -> x.until(v, 149, 200), NONE);
        BoilerRoll x = other();
        due("of one that is there, but weak", x.until(1, 150, 200), NONE);
        due("ahead of BUILT", x.until(0, 99, 200), NONE);
        due("on BUILT", x.until(0, 100, 200), 500);
    }

    private static void checkOfNone() {
        of("Promise 29", "NONE as of why()");
        noneAtAll("check", (x, d, k) -> x.check(1, d, k, 0, NONE), (x, v) -> x.check(v, 149, 200, 0, NONE), 0);
        noneAtAll("check, pressure", (x, d, k) -> x.check(1, d, k, 1, NONE), (x, v) -> x.check(v, 149, 200, 1, NONE), 1);
        noneAtAll("check, last", (x, d, k) -> x.check(1, d, k, 0, 0), (x, v) -> x.check(v, 149, 200, 0, 0), 2);
    }

    private static void untilAStop() {
        of("Promise 27", "The last day, at most 400 days later and 40000, up to which it MAY be fired on each day from this one on",
                "a stop");
        int[][] asked = {{1000, NONE}, {1001, 1000}, {1002, 1001}, {1399, 1398}, {1400, 1399}, {1401, 1400}, {1402, 1400}};
        for (int[] one : asked) {
            BoilerRoll x = fired();
            x.pass(2000);
            accepted(x.paper(0, 3, 0, 0, one[0]));
            due("a stop of " + one[0], x.until(0, 1000, 2000), one[1]);
        }
        BoilerRoll x = fired();
        x.pass(2000);
        accepted(x.paper(0, 3, 0, 0, 1010));
        accepted(x.paper(0, 4, 0, 0, 1011));
        due("it may again the day behind", x.until(0, 1000, 2000), 1009);
        due("from that day on", x.until(0, 1011, 2000), 1411);
        due("on the day between", x.until(0, 1010, 2000), NONE);
    }

    private static void untilDue() {
        of("Promise 27", "The last day, at most 400 days later and 40000, up to which it MAY be fired on each day from this one on",
                "DUE, and wear");
        BoilerRoll x = fired();
        due("399 days ahead of DUE", x.until(0, 3701, 200), 4100);
        due("400 days ahead of DUE", x.until(0, 3700, 200), 4100);
        due("401 days ahead of DUE", x.until(0, 3699, 200), 4099);
        due("on DUE", x.until(0, 4100, 200), 4100);
        due("behind DUE", x.until(0, 4101, 200), NONE);
        accepted(x.shape(0, 0, 1, 365, 1));
        due("a tenth a day, from 100 to 50", x.until(0, 100, 200), 150);
        due("from its last day on", x.until(0, 150, 200), 150);
        due("behind it", x.until(0, 151, 200), NONE);
    }

    /** An act of day 1010, entered on 2000: until() and when() of part 0 from 1000 on. */
    private static void overAnAct(String what, Act act, int until, int when) {
        BoilerRoll x = fired();
        accepted(x.set(0, 0, 90, 100));
        x.pass(1999);
        x.pass(2000);
        act.on(x);
        due("until of " + what, x.until(0, 1000, 2000), until);
        due("until, without " + what, x.until(0, 1000, 1999), 1400);
        due("when of " + what, x.when(0, 0, 1000, 2000), when);
        due("when, without " + what, x.when(0, 0, 1000, 1999), NONE);
    }

    private static void overEachAct() {
        of("Promises 27, 28", "up to which it MAY be fired on each day from this one on [..] The first day from this one on",
                "each act begins on its DAY");
        overAnAct("a measure", x -> file(x, 0, 1010, 89), 1009, 1010);
        overAnAct("a measure that bears enough", x -> file(x, 0, 1010, 100), 1400, NONE);
        overAnAct("a measure: nine tenths in 910 days, so one in 101 and a bit", x -> file(x, 0, 1010, 91), 1111, 1112);
        overAnAct("a patch", x -> accepted(x.patch(0, 0, 1, 1, 1, 1010)), 1009, 1010);
        overAnAct("a strong patch", x -> accepted(x.patch(0, 0, 9999, 9999, 999, 1010)), 1009, NONE);
        overAnAct("a plate", x -> accepted(x.plate(0, 0, 89, 1010)), 1009, 1010);
        overAnAct("a plate and a test", x -> accepted(x.plate(0, 0, 90, 1010) + x.paper(0, 2, 0, 0, 1010)), 1400, NONE);
        overAnAct("a valve", x -> accepted(x.valve(0, 101, 10, 1010)), 1009, 1010);
        overAnAct("a set", x -> accepted(x.set(0, 0, 101, 1010)), 1009, 1010);
        overAnAct("a stop", x -> accepted(x.paper(0, 3, 0, 0, 1010)), 1009, NONE);
        overAnAct("a look that found", x -> accepted(x.paper(0, 0, 0, 1, 1010)), 1009, NONE);
        overAnAct("a sale", x -> accepted(x.paper(0, 5, 1, 0, 1010)), 1400, NONE);
    }

    private static void untilPlugged() {
        of("Promise 27", "The last day, at most 400 days later and 40000, up to which it MAY be fired on each day from this one on",
                "a plug");
        BoilerRoll x = fired();
        accepted(x.part(0, 2, 10, 10, 100, 1000));
        accepted(x.shape(0, 1, 1, 0, 10));
        x.pass(2000);
        accepted(x.plug(0, 1, 2, 1010));
        due("two of ten plugged", x.until(0, 1000, 2000), 1009);
        accepted(x.plug(0, 1, 1, 1010));
        due("one of ten plugged", x.until(0, 1000, 2000), 1400);
        accepted(x.plug(0, 1, 3, 1400));
        due("three plugged 400 days later", x.until(0, 1000, 2000), 1399);
        due("401 days later", x.until(0, 999, 2000), 1399);
    }

    private static void untilDay40000() {
        of("Promise 27", "The last day, at most 400 days later and 40000", "40000");
        BoilerRoll x = new BoilerRoll();
        x.pass(39000);
        accepted(x.vessel(0, 1, 0, 39000));
        accepted(x.valve(0, 1, 1, 39000));
        for (int kind = 0; kind <= 2; kind++) {
            accepted(x.rule(kind, 4000, 4000));
        }
        int[][] asked = {{39599, 39999}, {39600, LAST}, {39601, LAST}, {39999, LAST}, {LAST, LAST}};
        for (int[] one : asked) {
            due("from " + one[0], x.until(0, one[0], 39000), one[1]);
        }
    }

    private static void whenOfNone() {
        of("Promise 28", "NONE without one, or as of bears()");
        noneOf("when", (x, d, k) -> x.when(1, 0, d, k), (x, v) -> v == 1 ? x.when(1, 0, 150, 200) : x.when(v, 0, 150, 200));
        BoilerRoll x = other();
        for (int n : new int[] {LEAST, -1, 0, 1, 2, 24, MOST}) {
            due("part " + n, x.when(1, n, 150, 200), n == 0 || n == 1 ? 150 : NONE);
        }
        due("one that bears enough", x.when(0, 0, 150, 200), NONE);
    }

    private static void whenLater() {
        of("Promise 28", "The first day from this one on, at most 400 days later and 40000", "400 days");
        int[][] asked = {{999, 1000}, {1000, 1000}, {1001, 1001}, {1399, 1399}, {1400, 1400}, {1401, NONE}, {1402, NONE}};
        for (int[] one : asked) {
            BoilerRoll x = fired();
            x.pass(2000);
            accepted(x.set(0, 0, 101, one[0]));
            due("too great a setting on " + one[0], x.when(0, 0, 1000, 2000), one[1]);
        }
    }

    private static void whenDay40000() {
        of("Promise 28", "The first day from this one on, at most 400 days later and 40000", "40000");
        BoilerRoll x = new BoilerRoll();
        x.pass(LAST);
        accepted(x.vessel(0, 1, 0, 39000));
        accepted(x.part(0, 0, 10, 10, 100, 1000));
        accepted(x.valve(0, 100, 1, 39000));
        due("none up to 40000", x.when(0, 0, LAST, LAST), NONE);
        accepted(x.set(0, 0, 101, LAST));
        int[][] asked = {{39599, NONE}, {39600, LAST}, {39601, LAST}, {39999, LAST}, {LAST, LAST}};
        for (int[] one : asked) {
            due("from " + one[0], x.when(0, 0, one[0], LAST), one[1]);
        }
    }

    private static void whenLess() {
        of("Promise 28", "on which a part BEARS less than the greatest SETTING then");
        BoilerRoll x = firedOn100();
        accepted(x.shape(0, 0, 1, 365, 1));
        due("it bears 50 against 50 on day 150", x.bears(0, 0, 150, 100), 50);
        due("49 against 50", x.when(0, 0, 100, 100), 151);
        x.pass(200);
        accepted(x.valve(0, 60, 1, 145));
        due("59 against 60 on the day the valve is there", x.when(0, 0, 100, 200), 145);
        accepted(x.valve(0, 90, 1, 110));
        due("90 against 90 on 110", x.when(0, 0, 100, 200), 111);
        accepted(x.set(0, 2, 40, 111));
        due("set lower on that day", x.when(0, 0, 100, 200), 145);
        BoilerRoll y = new BoilerRoll();
        y.pass(9);
        accepted(y.vessel(0, 1, 0, 0));
        accepted(y.part(0, 0, 1, 100000, 1, 1));
        due("without valves", y.when(0, 0, 0, 9), NONE);
        accepted(y.valve(0, 1, 1, 9));
        due("0 against 1", y.when(0, 0, 0, 9), 9);
    }

    private static void checks() {
        of("Promise 29", "0; 1: the pressure is not may()'s; 2: the last day is not until()'s");
        BoilerRoll x = fired();
        int[][] asked = {{50, 600, 0}, {49, 600, 1}, {51, 600, 1}, {50, 599, 2}, {50, 601, 2}, {49, 599, 1}, {0, NONE, 1},
            {50, NONE, 2}, {LEAST, LEAST, 1}, {MOST, MOST, 1}, {NONE, NONE, 1}};
        for (int[] one : asked) {
            due(one[0] + " until " + one[1], x.check(0, 200, 200, one[0], one[1]), one[2]);
        }
        accepted(x.paper(0, 3, 0, 0, 200));
        int[][] stopped = {{0, NONE, 0}, {0, 199, 2}, {0, 200, 2}, {0, 0, 2}, {1, NONE, 1}, {NONE, NONE, 1}, {50, 600, 1}};
        for (int[] one : stopped) {
            due("stopped, " + one[0] + " until " + one[1], x.check(0, 200, 200, one[0], one[1]), one[2]);
        }
    }

    // ---- promises 30 and 31

    /** Today is 500. Vessel 0 falls due on 465, 475, 485; vessel 1 on 475, 465, 465. */
    private static BoilerRoll listable() {
        BoilerRoll x = new BoilerRoll();
        x.pass(500);
        accepted(x.vessel(0, 1, 0, 100));
        accepted(x.vessel(0, 1, 0, 100));
        accepted(x.paper(0, 1, 0, 0, 110));
        accepted(x.paper(0, 2, 0, 0, 120));
        accepted(x.paper(1, 0, 0, 0, 110));
        return x;
    }

    private static void listFromTo() {
        of("Promise 30", "what is DUE on TODAY from one day to another one (any numbers) is LISTED [..] how many");
        BoilerRoll x = listable();
        int[][] asked = {{465, 485, 6}, {466, 485, 3}, {465, 484, 5}, {465, 465, 3}, {464, 464, 0}, {466, 474, 0}, {475, 475, 2},
            {485, 485, 1}, {486, MOST, 0}, {LEAST, 464, 0}, {LEAST, 465, 3}, {LEAST, MOST, 6}, {MOST, LEAST, 0},
            {485, 465, 0}, {-1, 465, 3}, {485, MOST, 1}, {LEAST, LEAST, 0}, {MOST, MOST, 0}};
        for (int[] one : asked) {
            due("from " + one[0] + " to " + one[1], x.list(one[0], one[1]), one[2]);
        }
        BoilerRoll y = new BoilerRoll();
        due("no vessels", y.list(LEAST, MOST), 0);
        accepted(y.vessel(0, 1, 0, 0));
        due("one vessel, all kinds", y.list(LEAST, MOST), 3);
    }

    private static void listedInOrder() {
        of("Promise 30", "LISTED: by DUE, then vessel, then kind");
        BoilerRoll x = listable();
        x.list(LEAST, MOST);
        int[][] want = {{0, 0, 465}, {1, 1, 465}, {1, 2, 465}, {0, 1, 475}, {1, 0, 475}, {0, 2, 485}};
        for (int i = 0; i < want.length; i++) {
            for (int what = 0; what < 3; what++) {
                due("the " + i + "-th, what " + what, x.listed(i, what), want[i][what]);
            }
        }
    }

    private static void fullList() {
        of("Promise 30", "For vessels (as known TODAY, BUILT not behind TODAY) and kinds 0, 1, 2", "30 vessels");
        BoilerRoll x = new BoilerRoll();
        x.pass(LAST);
        for (int v = 0; v < 30; v++) {
            accepted(x.vessel(0, 1, 0, LAST - v));
        }
        for (int kind = 0; kind < 3; kind++) {
            accepted(x.rule(kind, 4000 - kind, 1));
        }
        due("all", x.list(LEAST, MOST), 90);
        due("the first's vessel", x.listed(0, 0), 29);
        due("the first's kind", x.listed(0, 1), 2);
        due("the first's day", x.listed(0, 2), 43969);
        due("the last's vessel", x.listed(89, 0), 0);
        due("the last's kind", x.listed(89, 1), 0);
        due("the last's day", x.listed(89, 2), 44000);
        due("none behind it", x.listed(90, 0), NONE);
        int before = 0;
        for (int i = 0; i < 90; i++) {
            int at = (x.listed(i, 2) * 30 + x.listed(i, 0)) * 3 + x.listed(i, 1);
            due("whether the " + i + "-th is behind the one ahead of it", at > before ? 1 : 0, 1);
            before = at;
        }
    }

    private static void listOnToday() {
        of("Promise 30", "For vessels (as known TODAY, BUILT not behind TODAY) and kinds 0, 1, 2 what is DUE on TODAY",
                "acts of today");
        BoilerRoll x = fired();
        due("all known on 200", x.list(4100, 4100), 3);
        accepted(x.paper(0, 0, 0, 0, 200));
        due("a paper of today", x.list(4200, 4200), 1);
        accepted(x.vessel(0, 1, 0, 200));
        due("a vessel built today", x.list(4200, 4200), 4);
        accepted(x.rule(1, 10, 10));
        due("a rule of today", x.list(110, 210), 2);
    }

    private static void listedOfNone() {
        of("Promise 31", "NONE if there is none such");
        BoilerRoll x = listable();
        due("nothing was listed", x.listed(0, 0), NONE);
        x.list(465, 465);
        for (int i : new int[] {LEAST, -1, 3, 4, 90, MOST}) {
            for (int what = 0; what < 4; what++) {
                due("the " + i + "-th, what " + what, x.listed(i, what), NONE);
            }
        }
        for (int what : new int[] {LEAST, -1, 4, 5, MOST}) {
            due("what " + what, x.listed(0, what), NONE);
        }
        due("the first", x.listed(0, 2), 465);
        due("the last", x.listed(2, 2), 465);
        x.list(0, 0);
        due("none was listed latest", x.listed(0, 2), NONE);
    }

    private static void late() {
        of("Promise 31", "whether it was late (DUE ahead of TODAY then: 1, 0)");
        int[][] asked = {{464, 0}, {465, 0}, {466, 1}};
        for (int[] one : asked) {
            BoilerRoll x = new BoilerRoll();
            x.pass(one[0]);
            accepted(x.vessel(0, 1, 0, 100));
            due("listed", x.list(465, 465), 3);
            due("on day " + one[0], x.listed(2, 3), one[1]);
            x.pass(1000);
            due("on day " + one[0] + ", asked later", x.listed(2, 3), one[1]);
            due("on day " + one[0] + ", the day", x.listed(2, 2), 465);
        }
    }

    private static void termsOneAndThree() {
        actsBegin();
        tubesBegin();
        freesBegin();
        partsAreOfTheDayBuilt();
        ruleIsOfNoDay();
        theLast();
        dayNought();
        stopOfDayNought();
        knownBehindUndo();
        eachOfItsVessel();
        firstPlate();
        measuresBehindThePlate();
        measureBetweenTwoPlates();
        oneDayTheLastAlone();
        nothingAhead();
        whatItGoesBy();
        thickIsCutDown();
        thickIsNoLess();
        doubt();
        howManyDoubts();
    }

    private static void termsFourAndFive() {
        leastSpot();
        bearsIsCutDown();
        ofKinds();
        patchBounds();
        patchOfAMeasuredPart();
        allPlugged();
        lastPlug();
        goodAndStops();
        stopsFromItsDay();
        sold();
        freed();
        freedOfMany();
        mendsAndTests();
        mendsOfTwo();
        testsThatFound();
        dueDays();
        dueWithoutARule();
        ruleEnteredLast();
    }

    private static void termsSixAndSeven() {
        valvesOfADayEach();
        theFirstReason();
        notYetThere();
        behindDue();
        untestedMend();
        noValve();
        tooWeak();
        tooMuchFire();
        tooMuchFireForTubes();
        tooManyPlugs();
        atTheLeastSetting();
    }

    private static void promises() {
        thickOfNone();
        doubtsOfNone();
        bearsOfNone();
        weakestOfNone();
        firstOfTheWeakest();
        holdsOfNone();
        holdsWithoutValves();
        greatestAndLeast();
        tubesAndPlugged();
        dueOfNone();
        dueAbove40000();
        whyOfNone();
        mayOfNone();
        untilOfNone();
        checkOfNone();
        untilAStop();
        untilDue();
        overEachAct();
        untilPlugged();
        untilDay40000();
        whenOfNone();
        whenLater();
        whenDay40000();
        whenLess();
        checks();
        listFromTo();
        listedInOrder();
        fullList();
        listOnToday();
        listedOfNone();
        late();
    }

    public static void main(String[] args) {
        termsOneAndThree();
        termsFourAndFive();
        termsSixAndSeven();
        promises();
        System.out.println(wrong == 0 ? "all answers are as due" : wrong + " answers are not as due");
        if (wrong != 0) {
            System.exit(1);
        }
    }
}
