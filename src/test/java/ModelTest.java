import java.util.ArrayList;
import java.util.Arrays;
import java.util.List;

/**
 * Long runs of calls against a model that is written from the document a second time: plain lists,
 * each question answered from the acts alone, one day at a time.
 */
public final class ModelTest {
    private static final int RUNS = 500;
    /** Behind its 512th call what a roll answers is free. */
    private static final int CALLS = 512;
    /** No step makes more calls of the roll. */
    private static final int CALLS_OF_A_STEP = 20;
    private static final int[] LENGTHS = {2, 5, 7, 6, 16, 7, 5, 5, 5, 5, 6, 4};

    /** An act, or a pass, as it stands in the image. */
    private static final class Act {
        final int[] n;
        final int entered;
        final boolean open;

        Act(int[] n, int entered, boolean open) {
            this.n = n;
            this.entered = entered;
            this.open = open;
        }

        int code() {
            return n[0];
        }
    }

    /** One day's thickness in a spot's row. */
    private static final class Point {
        int day;
        int tenths;
    }

    private static final class Model {
        List<Act> log = new ArrayList<>();
        int[] sheet = null;
        int sheetKind = -1;
        int status = 0;
        int restores = 0;
        List<Integer> tape = new ArrayList<>();
        List<int[]> listed = new ArrayList<>();

        // ---- acts

        static boolean in(int x, int a, int b) {
            return a <= x && x <= b;
        }

        int today() {
            int today = 0;
            for (Act act : log) {
                if (act.code() == 0) {
                    today = act.n[1];
                }
            }
            return today;
        }

        List<Act> acts() {
            List<Act> all = new ArrayList<>();
            for (Act act : log) {
                if (act.code() != 0) {
                    all.add(act);
                }
            }
            return all;
        }

        List<Act> of(int code, int vessel) {
            List<Act> all = new ArrayList<>();
            for (Act act : log) {
                if (act.code() == code && (code <= 1 || code == 11 || act.n[1] == vessel)) {
                    all.add(act);
                }
            }
            return all;
        }

        List<Act> of(int code, int vessel, int part) {
            List<Act> all = of(code, vessel);
            all.removeIf(act -> act.n[2] != part);
            return all;
        }

        int vessels() {
            return of(1, 0).size();
        }

        Act vesselAct(int v) {
            return v >= 0 && v < vessels() ? of(1, 0).get(v) : null;
        }

        Act partAct(int v, int p) {
            return vesselAct(v) != null && p >= 0 && p < of(2, v).size() ? of(2, v).get(p) : null;
        }

        int[] shapeNow(int v, int p) {
            int[] shape = {1, 0, 1};
            for (Act act : of(3, v, p)) {
                shape = new int[] {act.n[3], act.n[4], act.n[5]};
            }
            return shape;
        }

        /** Refuses, or enters the act and answers what is due. */
        int act(int... n) {
            int answer = judge(n);
            if (answer >= 0) {
                log.add(new Act(n, n[0] == 0 ? n[1] : today(), n[0] != 0));
                if (n[0] == 0) {
                    List<Act> shut = new ArrayList<>();
                    for (Act act : log) {
                        shut.add(new Act(act.n, act.entered, false));
                    }
                    log = shut;
                }
            }
            return answer;
        }

        boolean dayOk(int v, int day) {
            return in(day, vesselAct(v).n[4], today());
        }

        int judge(int[] n) {
            int full = acts().size() >= 2000 ? -4 : 0;
            switch (n[0]) {
                case 0:
                    return !in(n[1], today(), 40000) ? -2 : of(0, 0).size() >= 4000 ? -4 : n[1];
                case 1:
                    if (!in(n[1], 0, 999) || !in(n[2], 1, 20) || !in(n[3], 0, 100000) || !in(n[4], 0, today())) {
                        return -2;
                    }
                    return vessels() >= 30 ? -4 : full < 0 ? full : vessels();
                case 11:
                    if (!in(n[1], 0, 2) || !in(n[2], 1, 4000) || !in(n[3], 1, 4000)) {
                        return -2;
                    }
                    return full < 0 ? full : of(11, 0).size() + 1;
                default:
                    break;
            }
            int v = n[1];
            if (vesselAct(v) == null) {
                return -1;
            }
            switch (n[0]) {
                case 2:
                    if (!in(n[2], 0, 4) || !in(n[3], 1, 100000) || !in(n[4], 1, 100000) || !in(n[5], 1, 10000)
                            || !in(n[6], 1, 1000)) {
                        return -2;
                    }
                    return of(2, v).size() >= 24 ? -4 : full < 0 ? full : of(2, v).size();
                case 8:
                    if (!in(n[2], 1, 10000) || !in(n[3], 1, 100000) || !dayOk(v, n[4])) {
                        return -2;
                    }
                    return of(8, v).size() >= 6 ? -4 : full < 0 ? full : of(8, v).size();
                case 9:
                    if (n[2] < 0 || n[2] >= of(8, v).size()) {
                        return -1;
                    }
                    if (!in(n[3], 1, 10000) || !in(n[4], of(8, v).get(n[2]).n[4], today())) {
                        return -2;
                    }
                    return full < 0 ? full : n[3];
                case 10:
                    if (!in(n[2], 0, 5) || !in(n[3], 0, 999) || !in(n[4], 0, 9999) || !dayOk(v, n[5])) {
                        return -2;
                    }
                    return full < 0 ? full : of(10, v).size() + 1;
                default:
                    return judgeOfPart(n, full);
            }
        }

        int judgeOfPart(int[] n, int full) {
            int v = n[1];
            int p = n[2];
            if (partAct(v, p) == null) {
                return -1;
            }
            int kind = partAct(v, p).n[2];
            int[] shape = shapeNow(v, p);
            boolean ok;
            int answer;
            switch (n[0]) {
                case 3:
                    if (!in(n[3], 1, 12) || !in(n[4], 0, 1000) || !in(n[5], 1, kind == 2 ? 500 : 1)) {
                        return -2;
                    }
                    if (of(4, v, p).size() + of(5, v, p).size() + of(6, v, p).size() + of(7, v, p).size() > 0) {
                        return -3;
                    }
                    ok = true;
                    answer = n[3];
                    break;
                case 4:
                    ok = dayOk(v, n[3]);
                    answer = 0;
                    for (int s = 0; s < 12; s++) {
                        ok = ok && in(n[4 + s], -1, s < shape[0] ? 10000 : -1);
                        answer += n[4 + s] >= 0 ? 1 : 0;
                    }
                    break;
                case 5:
                    ok = in(n[3], 1, 100000) && in(n[4], 1, 10000) && in(n[5], 1, 1000) && dayOk(v, n[6]);
                    answer = 1;
                    break;
                case 6:
                    ok = in(n[3], 1, 10000) && dayOk(v, n[4]);
                    answer = 1;
                    break;
                default:
                    if (kind != 2) {
                        return -1;
                    }
                    ok = in(n[3], 0, shape[2]) && dayOk(v, n[4]);
                    answer = n[3];
                    break;
            }
            return !ok ? -2 : full < 0 ? full : answer;
        }

        int sheet(int kind, int n) {
            if (!in(kind, 0, 2) || n > 40) {
                return -2;
            }
            if (kind < 2 && n < 0) {
                return -3;
            }
            sheetKind = kind;
            sheet = new int[kind == 2 ? 0 : n];
            return sheet.length;
        }

        boolean entry(int i, int v) {
            if (sheet == null || sheetKind == 2 || !in(i, 0, sheet.length - 1)) {
                return false;
            }
            sheet[i] = v;
            return true;
        }

        int measure(int v, int p, int day) {
            if (partAct(v, p) == null) {
                return -1;
            }
            if (sheet == null) {
                return -3;
            }
            int[] n = new int[16];
            Arrays.fill(n, -1);
            n[0] = 4;
            n[1] = v;
            n[2] = p;
            n[3] = day;
            for (int s = 0; s < shapeNow(v, p)[0] && s < sheet.length; s++) {
                float told = Float.intBitsToFloat(sheet[s]);
                if (sheetKind == 1 && Float.isNaN(told)) {
                    continue;
                }
                int tenths = sheetKind == 0 ? (short) sheet[s] : (int) (told * 10f);
                if (!in(tenths, 0, 10000)) {
                    return -2;
                }
                n[4 + s] = tenths;
            }
            int answer = act(n);
            if (answer >= 0) {
                sheet = null;
            }
            return answer;
        }

        int undo() {
            if (log.isEmpty() || !log.get(log.size() - 1).open) {
                return -1;
            }
            return log.remove(log.size() - 1).code();
        }

        int count(int what, int v) {
            if (what == 0) {
                return today();
            }
            if (what == 1) {
                return vessels();
            }
            if (what == 2) {
                return acts().size();
            }
            if (what == 3) {
                return of(0, 0).size();
            }
            if (what == 4) {
                return of(11, 0).size();
            }
            if (!in(what, 5, 7) || vesselAct(v) == null) {
                return -1;
            }
            return of(what == 5 ? 2 : what == 6 ? 8 : 10, v).size();
        }

        // ---- what holds

        int dayOf(Act act) {
            switch (act.code()) {
                case 4:
                    return act.n[3];
                case 5:
                    return act.n[6];
                case 6:
                case 7:
                case 8:
                case 9:
                    return act.n[4];
                case 10:
                    return act.n[5];
                default:
                    return vesselAct(act.n[1]).n[4];
            }
        }

        /** What holds on a day of acts of a code, as known, in order of entry. */
        List<Act> held(int code, int v, int day, int known) {
            List<Act> all = of(code, v);
            all.removeIf(act -> act.entered > known || dayOf(act) > day);
            return all;
        }

        List<Act> held(int code, int v, int p, int day, int known) {
            List<Act> all = held(code, v, day, known);
            all.removeIf(act -> act.n[2] != p);
            return all;
        }

        /** Of several the last: of the greatest day, of one day entered last. */
        Act last(List<Act> all) {
            Act found = null;
            for (Act act : all) {
                if (found == null || dayOf(act) > dayOf(found)
                        || dayOf(act) == dayOf(found) && log.indexOf(act) > log.indexOf(found)) {
                    found = act;
                }
            }
            return found;
        }

        boolean asked(int v, int day, int known) {
            return vesselAct(v) != null && in(day, 0, 40000) && in(known, 0, 40000);
        }

        boolean there(int v, int day, int known) {
            return asked(v, day, known) && vesselAct(v).entered <= known && vesselAct(v).n[4] <= day;
        }

        boolean partThere(int v, int p, int day, int known) {
            return there(v, day, known) && partAct(v, p) != null && partAct(v, p).entered <= known;
        }

        int[] shape(int v, int p, int day, int known) {
            int[] shape = {1, 0, 1};
            for (Act act : held(3, v, p, day, known)) {
                shape = new int[] {act.n[3], act.n[4], act.n[5]};
            }
            return shape;
        }

        List<Point> row(int v, int p, int s, int day, int known) {
            Act plate = last(held(6, v, p, day, known));
            int plateDay = plate == null ? vesselAct(v).n[4] : plate.n[4];
            int plateTenths = plate == null ? partAct(v, p).n[5] : plate.n[3];
            int[] byDay = new int[day + 1];
            Arrays.fill(byDay, -1);
            byDay[plateDay] = plateTenths;
            for (Act act : held(4, v, p, day, known)) {
                boolean behind = plate == null || log.indexOf(act) > log.indexOf(plate);
                if (act.n[4 + s] >= 0 && (act.n[3] > plateDay || act.n[3] == plateDay && behind)) {
                    byDay[act.n[3]] = act.n[4 + s];
                }
            }
            List<Point> row = new ArrayList<>();
            for (int d = 0; d <= day; d++) {
                if (byDay[d] >= 0) {
                    Point point = new Point();
                    point.day = d;
                    point.tenths = byDay[d];
                    row.add(point);
                }
            }
            return row;
        }

        int thick(int v, int p, int s, int day, int known) {
            if (!partThere(v, p, day, known)) {
                return -1;
            }
            int[] shape = shape(v, p, day, known);
            if (!in(s, 0, shape[0] - 1)) {
                return -1;
            }
            List<Point> row = row(v, p, s, day, known);
            Point end = row.get(row.size() - 1);
            long over = shape[1];
            long under = 365;
            if (row.size() > 1) {
                Point back = row.get(row.size() - 2);
                long o = back.tenths - end.tenths;
                long u = end.day - back.day;
                if (o * under > over * u) {
                    over = o;
                    under = u;
                }
            }
            return (int) Math.max(0, Math.floorDiv(end.tenths * under - over * (day - end.day), under));
        }

        int doubts(int v, int p, int day, int known) {
            if (!partThere(v, p, day, known)) {
                return -1;
            }
            int sum = 0;
            for (int s = 0; s < shape(v, p, day, known)[0]; s++) {
                List<Point> row = row(v, p, s, day, known);
                if (row.size() > 1 && row.get(row.size() - 1).tenths > row.get(row.size() - 2).tenths) {
                    sum++;
                }
            }
            return sum;
        }

        int plugged(int v, int p, int day, int known) {
            Act plug = last(held(7, v, p, day, known));
            return plug == null ? 0 : plug.n[3];
        }

        int bears(int v, int p, int day, int known) {
            if (!partThere(v, p, day, known)) {
                return -1;
            }
            int[] part = partAct(v, p).n;
            int[] shape = shape(v, p, day, known);
            if (part[2] == 2 && plugged(v, p, day, known) == shape[2]) {
                return 1000000;
            }
            long least = Long.MAX_VALUE;
            for (int s = 0; s < shape[0]; s++) {
                least = Math.min(least, thick(v, p, s, day, known));
            }
            long safety = vesselAct(v).n[2];
            long a = part[2] == 3 ? 9 : 1;
            long b = part[2] == 3 ? 20 : part[2] == 1 ? 2 : 1;
            long borne = part[3] * least * part[6] * a / (1000L * part[4] * safety * b);
            List<Act> mends = held(5, v, p, day, known);
            mends.addAll(held(6, v, p, day, known));
            Act mend = last(mends);
            if (mend != null && mend.code() == 5) {
                borne = Math.min(borne, (long) mend.n[3] * mend.n[4] * mend.n[5] * 4 / (1000L * part[4] * safety * 5));
            }
            return (int) borne;
        }

        int partsKnown(int v, int known) {
            int sum = 0;
            for (Act act : of(2, v)) {
                sum += act.entered <= known ? 1 : 0;
            }
            return sum;
        }

        int weakest(int v, int day, int known) {
            if (!there(v, day, known)) {
                return -1;
            }
            int found = -1;
            for (int p = partsKnown(v, known) - 1; p >= 0; p--) {
                if (found < 0 || bears(v, p, day, known) <= bears(v, found, day, known)) {
                    found = p;
                }
            }
            return found;
        }

        int holds(int v, int what, int day, int known) {
            if (!there(v, day, known) || !in(what, 0, 5)) {
                return -1;
            }
            int greatest = -1;
            int least = -1;
            int passes = 0;
            for (int i = 0; i < of(8, v).size(); i++) {
                Act valve = of(8, v).get(i);
                if (valve.entered > known || valve.n[4] > day) {
                    continue;
                }
                Act set = last(held(9, v, i, day, known));
                int setting = set == null ? valve.n[2] : set.n[3];
                greatest = Math.max(greatest, setting);
                least = least < 0 ? setting : Math.min(least, setting);
                passes += valve.n[3];
            }
            int tubes = 0;
            int plugged = 0;
            for (int p = 0; p < partsKnown(v, known); p++) {
                if (partAct(v, p).n[2] == 2) {
                    tubes += shape(v, p, day, known)[2];
                    plugged += plugged(v, p, day, known);
                }
            }
            List<Act> sold = held(10, v, day, known);
            sold.removeIf(act -> act.n[2] != 5);
            int owner = last(sold) == null ? vesselAct(v).n[1] : last(sold).n[3];
            return new int[] {greatest, least, passes, tubes, plugged, owner}[what];
        }

        List<Act> good(int v, int kind, int day, int known) {
            List<Act> all = held(10, v, day, known);
            all.removeIf(act -> act.n[2] != kind || act.n[4] != 0);
            return all;
        }

        int due(int v, int kind, int day, int known) {
            if (!in(kind, 0, 2) || !there(v, day, known)) {
                return -1;
            }
            Act paper = last(good(v, kind, day, known));
            int built = vesselAct(v).n[4];
            int g = paper == null ? built : paper.n[5];
            int[] days = {365, 365};
            for (Act rule : of(11, 0)) {
                if (rule.entered <= known && rule.n[1] == kind) {
                    days = new int[] {rule.n[2], rule.n[3]};
                }
            }
            return g + (g - built < 7300 ? days[0] : days[1]);
        }

        List<Act> mends(int v, int day, int known) {
            List<Act> all = held(5, v, day, known);
            all.addAll(held(6, v, day, known));
            return all;
        }

        boolean testedBehind(int v, int mendDay, int day, int known) {
            for (Act test : good(v, 2, day, known)) {
                if (test.n[5] >= mendDay) {
                    return true;
                }
            }
            return false;
        }

        boolean stops(Act stop, int v, int day, int known) {
            if (!(stop.n[2] == 3 || stop.n[2] <= 2 && stop.n[4] != 0)) {
                return false;
            }
            for (Act free : held(10, v, day, known)) {
                if (free.n[2] == 4 && free.n[5] >= stop.n[5] && log.indexOf(free) > log.indexOf(stop)) {
                    return false;
                }
            }
            for (Act mend : mends(v, day, known)) {
                if (dayOf(mend) >= stop.n[5] && testedBehind(v, dayOf(mend), day, known)) {
                    return false;
                }
            }
            return true;
        }

        int why(int v, int day, int known) {
            if (!asked(v, day, known)) {
                return -1;
            }
            if (!there(v, day, known)) {
                return 1;
            }
            for (Act paper : held(10, v, day, known)) {
                if (stops(paper, v, day, known)) {
                    return 2;
                }
            }
            for (int kind = 0; kind < 3; kind++) {
                if (day > due(v, kind, day, known)) {
                    return 3 + kind;
                }
            }
            Act mend = last(mends(v, day, known));
            if (mend != null && !testedBehind(v, dayOf(mend), day, known)) {
                return 6;
            }
            int greatest = holds(v, 0, day, known);
            if (greatest < 0) {
                return 7;
            }
            for (int p = 0; p < partsKnown(v, known); p++) {
                if (bears(v, p, day, known) < greatest) {
                    return 8 + 16 * p;
                }
            }
            long passes = holds(v, 2, day, known);
            long tubes = holds(v, 3, day, known);
            long plugged = holds(v, 4, day, known);
            long makes = vesselAct(v).n[3];
            if (tubes == 0 ? passes < makes : passes * tubes < makes * (tubes - plugged)) {
                return 9;
            }
            return plugged * 10 > tubes ? 10 : 0;
        }

        int may(int v, int day, int known) {
            int why = why(v, day, known);
            return why < 0 ? -1 : why == 0 ? holds(v, 1, day, known) : 0;
        }

        int until(int v, int day, int known) {
            int last = -1;
            for (int d = day; d >= 0 && d <= 40000 && d <= day + 400 && why(v, d, known) == 0; d++) {
                last = d;
            }
            return last;
        }

        int when(int v, int p, int day, int known) {
            if (!partThere(v, p, day, known)) {
                return -1;
            }
            for (int d = day; d <= 40000 && d <= day + 400; d++) {
                if (bears(v, p, d, known) < holds(v, 0, d, known)) {
                    return d;
                }
            }
            return -1;
        }

        int check(int v, int day, int known, int pressure, int last) {
            if (!asked(v, day, known)) {
                return -1;
            }
            return may(v, day, known) != pressure ? 1 : until(v, day, known) != last ? 2 : 0;
        }

        int list(int from, int to) {
            listed.clear();
            int today = today();
            for (int v = 0; v < vessels(); v++) {
                for (int kind = 0; kind < 3; kind++) {
                    int due = due(v, kind, today, today);
                    if (from <= due && due <= to) {
                        listed.add(new int[] {v, kind, due, due < today ? 1 : 0});
                    }
                }
            }
            listed.sort((a, b) -> a[2] != b[2] ? a[2] - b[2] : a[0] != b[0] ? a[0] - b[0] : a[1] - b[1]);
            return listed.size();
        }

        int listed(int i, int what) {
            return in(i, 0, listed.size() - 1) && in(what, 0, 3) ? listed.get(i)[what] : -1;
        }

        // ---- the image

        List<Integer> image() {
            List<Integer> all = new ArrayList<>();
            for (Act act : log) {
                for (int n : act.n) {
                    all.add(n);
                }
            }
            return all;
        }

        int restore() {
            List<Integer> told = tape;
            tape = new ArrayList<>();
            if (restores >= 8) {
                return -4;
            }
            restores++;
            Model fresh = new Model();
            int place = 0;
            while (place < told.size()) {
                int code = told.get(place);
                if (!in(code, 0, 11) || place + LENGTHS[code] > told.size()) {
                    return -10 - place;
                }
                int[] n = new int[LENGTHS[code]];
                for (int i = 0; i < n.length; i++) {
                    n[i] = told.get(place + i);
                }
                if (fresh.act(n) < 0) {
                    return -10 - place;
                }
                place += n.length;
            }
            log = new ArrayList<>();
            for (Act act : fresh.log) {
                log.add(new Act(act.n, act.entered, false));
            }
            sheet = null;
            listed.clear();
            status = 0;
            return acts().size();
        }
    }

    // ---- runs

    private static int wrong = 0;
    private static int used = 0;
    private static long seed = 1;
    /** How often why() answered 0 .. 7, 8 (with a part), 9, 10, NONE; until() NONE, this day, a later one; when() so. */
    private static final int[] answers = new int[18];

    private static int any(int least, int most) {
        seed = seed * 6364136223846793005L + 1442695040888963407L;
        return (int) (least + (seed >>> 20) % ((long) most - least + 1L));
    }

    /** Mostly inside, now and then at an edge or past it. */
    private static int near(int least, int most) {
        int way = any(0, 59);
        if (way == 0) {
            return least - 1;
        }
        if (way == 1) {
            return most + 1;
        }
        if (way < 5) {
            return least;
        }
        if (way < 8) {
            return most;
        }
        return way == 8 ? any(Integer.MIN_VALUE, Integer.MAX_VALUE) : any(least, most);
    }

    /** One call of the roll. */
    private static void due(int run, int call, String told, long got, long want) {
        used++;
        if (got != want) {
            wrong++;
            if (wrong < 40) {
                System.out.println("run " + run + ", call " + call + ": " + told + " answered " + got + ", due is " + want);
            }
        }
    }

    private static void refusable(Model m, int answer) {
        m.status = answer < 0 ? answer : 0;
    }

    private static void step(int run, int call, BoilerRoll x, Model m, int pace) {
        boolean calm = run % 3 != 0;
        int today = m.today();
        int v = near(0, Math.max(0, m.vessels() - 1));
        int p = near(0, Math.max(0, m.of(2, v).size() - 1));
        int built = m.vesselAct(v) == null ? 0 : m.vesselAct(v).n[4];
        int day = any(0, 3) == 0 ? today : near(built, today);
        int want;
        switch (any(0, 40)) {
            case 0:
                if (m.vessels() > 2 && any(0, 9) > 0) {
                    break;
                }
                int[] a = {near(0, 999), near(1, 20), near(0, calm ? 500 : 5000), any(0, 2) == 0 ? near(0, today) : today};
                want = m.act(1, a[0], a[1], a[2], a[3]);
                refusable(m, want);
                due(run, call, "vessel" + Arrays.toString(a), x.vessel(a[0], a[1], a[2], a[3]), want);
                break;
            case 1:
            case 2:
                if (m.of(2, v).size() > 4 && any(0, 9) > 0) {
                    break;
                }
                int[] b = {v, near(0, 4), near(3000, 30000), near(1, 3000), near(500, 10000), near(500, 1000)};
                want = m.act(2, b[0], b[1], b[2], b[3], b[4], b[5]);
                refusable(m, want);
                due(run, call, "part" + Arrays.toString(b), x.part(b[0], b[1], b[2], b[3], b[4], b[5]), want);
                break;
            case 3:
            case 4:
                boolean tubes = m.partAct(v, p) != null && m.partAct(v, p).n[2] == 2;
                int[] c = {v, p, near(1, 12), near(0, 1000), tubes ? near(1, 500) : near(1, 1)};
                want = m.act(3, c[0], c[1], c[2], c[3], c[4]);
                refusable(m, want);
                due(run, call, "shape" + Arrays.toString(c), x.shape(c[0], c[1], c[2], c[3], c[4]), want);
                break;
            case 5:
            case 6:
            case 7:
                measureRun(run, call, x, m, v, p, day);
                break;
            case 8:
                int[] e = {v, p, near(5000, 100000), near(50, 10000), near(500, 1000), day};
                want = m.act(5, e[0], e[1], e[2], e[3], e[4], e[5]);
                refusable(m, want);
                due(run, call, "patch" + Arrays.toString(e), x.patch(e[0], e[1], e[2], e[3], e[4], e[5]), want);
                break;
            case 9:
                int[] f = {v, p, near(1, 10000), day};
                want = m.act(6, f[0], f[1], f[2], f[3]);
                refusable(m, want);
                due(run, call, "plate" + Arrays.toString(f), x.plate(f[0], f[1], f[2], f[3]), want);
                break;
            case 10:
            case 11:
                int many = m.shapeNow(v, p)[2];
                int[] g = {v, p, any(0, 1) == 0 ? near(0, many) : near(0, many / 10), day};
                want = m.act(7, g[0], g[1], g[2], g[3]);
                refusable(m, want);
                due(run, call, "plug" + Arrays.toString(g), x.plug(g[0], g[1], g[2], g[3]), want);
                break;
            case 12:
                int[] h = {v, near(1, 300), near(100, 600), day};
                want = m.act(8, h[0], h[1], h[2], h[3]);
                refusable(m, want);
                due(run, call, "valve" + Arrays.toString(h), x.valve(h[0], h[1], h[2], h[3]), want);
                break;
            case 13:
                int[] i = {v, near(0, Math.max(0, m.of(8, v).size() - 1)), near(1, 200), day};
                want = m.act(9, i[0], i[1], i[2], i[3]);
                refusable(m, want);
                due(run, call, "set" + Arrays.toString(i), x.set(i[0], i[1], i[2], i[3]), want);
                break;
            case 14:
            case 15:
            case 16:
            case 17:
            case 18:
                int kind = any(0, calm ? 9 : 2) == 0 ? near(0, 5) : any(0, 2);
                int[] j = {v, kind, near(0, 999), any(0, calm ? 40 : 5) > 0 ? 0 : near(0, 9999), day};
                want = m.act(10, j[0], j[1], j[2], j[3], j[4]);
                refusable(m, want);
                due(run, call, "paper" + Arrays.toString(j), x.paper(j[0], j[1], j[2], j[3], j[4]), want);
                break;
            case 19:
                int[] k = {near(0, 2), near(1, 4000), near(1, 4000)};
                want = m.act(11, k[0], k[1], k[2]);
                refusable(m, want);
                due(run, call, "rule" + Arrays.toString(k), x.rule(k[0], k[1], k[2]), want);
                break;
            case 20:
                int to = any(0, 20) == 0 ? near(0, 40000) : Math.min(40000, today + any(0, pace));
                want = m.act(0, to);
                refusable(m, want);
                due(run, call, "pass(" + to + ")", x.pass(to), want);
                break;
            case 21:
                want = m.undo();
                refusable(m, want);
                due(run, call, "undo()", x.undo(), want);
                break;
            default:
                ask(run, call, x, m, v, p, day);
                break;
        }
    }

    private static void measureRun(int run, int call, BoilerRoll x, Model m, int v, int p, int day) {
        int way = any(0, 9);
        if (way < 9) {
            int kind = near(0, way < 3 ? 2 : 1);
            int n = way < 3 ? near(0, 40) : any(1, 12);
            int want = m.sheet(kind, n);
            refusable(m, want);
            due(run, call, "sheet(" + kind + ", " + n + ")", x.sheet(kind, n), want);
            for (int i = 0; i < n && i < 14; i++) {
                int tenths = any(0, 40) == 0 ? near(0, 10000) : any(3000, 9000);
                int bits = tenths;
                if (kind == 1) {
                    bits = any(0, 9) == 0 ? any(Integer.MIN_VALUE, Integer.MAX_VALUE) : Float.floatToRawIntBits(tenths / 10f);
                    bits = any(0, 9) == 0 ? 0x7FC00001 : bits;
                }
                due(run, call, "entry(" + i + ", " + bits + ")", x.entry(i, bits) ? 1 : 0, m.entry(i, bits) ? 1 : 0);
            }
        }
        int want = m.measure(v, p, day);
        refusable(m, want);
        due(run, call, "measure(" + v + ", " + p + ", " + day + ")", x.measure(v, p, day), want);
    }

    private static void ask(int run, int call, BoilerRoll x, Model m, int v, int p, int near) {
        int today = m.today();
        int d = any(0, 3) == 0 ? near : any(0, 9) == 0 ? near(0, 40000) : today + any(0, 500);
        int k = any(0, 1) == 0 ? today : near(0, today);
        String told = "(" + v + ", " + p + ", " + d + ", " + k + ")";
        switch (any(0, 17)) {
            case 0:
                int s = near(0, 11);
                due(run, call, "thick, spot " + s + " of " + told, x.thick(v, p, s, d, k), m.thick(v, p, s, d, k));
                break;
            case 1:
                due(run, call, "doubts" + told, x.doubts(v, p, d, k), m.doubts(v, p, d, k));
                break;
            case 2:
                due(run, call, "bears" + told, x.bears(v, p, d, k), m.bears(v, p, d, k));
                break;
            case 3:
                due(run, call, "weakest" + told, x.weakest(v, d, k), m.weakest(v, d, k));
                break;
            case 4:
                int w = near(0, 5);
                due(run, call, "holds " + w + told, x.holds(v, w, d, k), m.holds(v, w, d, k));
                break;
            case 5:
                int kind = near(0, 2);
                due(run, call, "due " + kind + told, x.due(v, kind, d, k), m.due(v, kind, d, k));
                break;
            case 6:
            case 7:
            case 8:
                int why = m.why(v, d, k);
                answers[why < 0 ? 11 : why < 8 ? why : why % 16 == 8 ? 8 : why]++;
                due(run, call, "why" + told, x.why(v, d, k), why);
                break;
            case 9:
                due(run, call, "may" + told, x.may(v, d, k), m.may(v, d, k));
                break;
            case 10:
                int until = m.until(v, d, k);
                answers[until < 0 ? 12 : until == d ? 13 : 14]++;
                due(run, call, "until" + told, x.until(v, d, k), until);
                break;
            case 11:
                int when = m.when(v, p, d, k);
                answers[when < 0 ? 15 : when == d ? 16 : 17]++;
                due(run, call, "when" + told, x.when(v, p, d, k), when);
                break;
            case 12:
                int pressure = m.may(v, d, k) + (any(0, 4) == 0 ? 1 : 0);
                int last = m.until(v, d, k) + (any(0, 4) == 0 ? 1 : 0);
                due(run, call, "check" + told, x.check(v, d, k, pressure, last), m.check(v, d, k, pressure, last));
                break;
            case 13:
                int from = any(0, 1) == 0 ? 0 : near(0, 40000);
                int to = any(0, 1) == 0 ? Integer.MAX_VALUE : near(0, 44000);
                due(run, call, "list(" + from + ", " + to + ")", x.list(from, to), m.list(from, to));
                break;
            case 14:
                int i = near(0, Math.max(0, m.listed.size() - 1));
                int what = near(0, 3);
                due(run, call, "listed(" + i + ", " + what + ")", x.listed(i, what), m.listed(i, what));
                break;
            case 15:
                int c = near(0, 7);
                due(run, call, "count(" + c + ", " + v + ")", x.count(c, v), m.count(c, v));
                break;
            case 16:
                tapeRun(run, call, x, m);
                break;
            default:
                imageCheck(run, call, x, m);
                break;
        }
    }

    private static void imageCheck(int run, int call, BoilerRoll x, Model m) {
        List<Integer> image = m.image();
        due(run, call, "image()", x.image(), image.size());
        int first = near(0, image.size()) - 6;
        for (int i = first; i < first + 12; i++) {
            due(run, call, "imageAt(" + i + ")", x.imageAt(i), i < 0 || i >= image.size() ? 0 : image.get(i));
        }
    }

    /** The image comes back, cut, spoiled by some ints, or whole. */
    private static void tapeRun(int run, int call, BoilerRoll x, Model m) {
        if (any(0, 3) > 0) {
            return;
        }
        m.tape = new ArrayList<>(m.image());
        due(run, call, "again()", x.again(), m.tape.size());
        int way = any(0, 3);
        if (way == 0) {
            int n = near(0, m.tape.size());
            boolean cut = n >= 0 && n <= m.tape.size();
            due(run, call, "end(" + n + ")", x.end(n) ? 1 : 0, cut ? 1 : 0);
            m.tape = cut ? new ArrayList<>(m.tape.subList(0, n)) : m.tape;
        }
        if (way <= 1) {
            int[] n = {near(0, 11), any(0, 3), any(0, 3), any(1, 20), m.today()};
            for (int one : n) {
                m.tape.add(one);
            }
            due(run, call, "feed(" + Arrays.toString(n) + ")", x.feed(n[0], n[1], n[2], n[3], n[4]), m.tape.size());
        }
        due(run, call, "restore()", x.restore(), m.restore());
    }

    public static void main(String[] args) {
        for (int run = 0; run < RUNS; run++) {
            seed = run + 1;
            BoilerRoll x = new BoilerRoll();
            Model m = new Model();
            int pace = run % 4 == 0 ? 4 : run % 4 == 1 ? 40 : run % 4 == 2 ? 400 : 3000;
            used = 0;
            for (int call = 0; used < CALLS - CALLS_OF_A_STEP && wrong == 0; call++) {
                int before = used;
                step(run, call, x, m, pace);
                if (any(0, 2) == 0) {
                    due(run, call, "status()", x.status(), m.status);
                }
                if (used - before > CALLS_OF_A_STEP) {
                    wrong++;
                    System.out.println("run " + run + ", call " + call + ": more calls than a step may make");
                }
            }
        }
        System.out.println("asked: " + Arrays.toString(answers));
        System.out.println(wrong == 0 ? "all answers are as due" : wrong + " answers are not as due");
        if (wrong != 0) {
            System.exit(1);
        }
    }
}
