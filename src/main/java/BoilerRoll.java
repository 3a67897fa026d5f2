import java.util.Arrays;

/**
 * A roll of vessels under pressure: parts with plates that grow thin, papers of looks, tests, stops
 * and mends, valves; for each day, as it was known on any day, at which pressure a vessel may be
 * fired, until when, and what bounds it first; acts taken back, the roll as a row of numbers and
 * gone on from it.
 *
 * <p>Acts are kept as the image alone, with the place in it and the day of entry of each: what a query
 * asks is read out of it anew, so that an act that is taken back leaves nothing behind.
 */
public final class BoilerRoll {
    public static final int NONE = -1;
    public static final int RANGE = -2;
    public static final int STATE = -3;
    public static final int FULL = -4;

    private static final int LAST_DAY = 40000;
    private static final int DAYS_AHEAD = 400;
    private static final int MOST_ACTS = 2000;
    private static final int MOST_PASSES = 4000;
    private static final int MOST_VESSELS = 30;
    private static final int MOST_PARTS = 24;
    private static final int MOST_VALVES = 6;
    private static final int MOST_SPOTS = 12;
    private static final int MOST_ENTRIES = 40;
    private static final int MOST_INTS = 40000;
    private static final int MOST_RESTORES = 8;
    private static final int MOST_TENTHS = 10000;

    private static final int PASS = 0;
    private static final int VESSEL = 1;
    private static final int PART = 2;
    private static final int SHAPE = 3;
    private static final int MEASURE = 4;
    private static final int PATCH = 5;
    private static final int PLATE = 6;
    private static final int PLUG = 7;
    private static final int VALVE = 8;
    private static final int SET = 9;
    private static final int PAPER = 10;
    private static final int RULE = 11;

    private static final int END = 1;
    private static final int TUBES = 2;
    private static final int DOOR = 3;
    private static final int SEAM = 4;

    private static final int TEST = 2;
    private static final int STOP = 3;
    private static final int FREE = 4;
    private static final int SOLD = 5;

    /** Kinds of papers that fall due: looks from outside, looks inside, tests. */
    private static final int DUE_KINDS = 3;

    private static final int UNMEASURED = -1;
    private static final int BEYOND = 1000000;

    private Roll roll = new Roll();
    private Roll spare = new Roll();
    private final View view = new View();
    private final Sheet sheet = new Sheet();
    private final Row tenths = new Row(MOST_SPOTS);
    private final Listing listing = new Listing();
    private final Row tape = new Row(MOST_INTS);
    private int status = 0;
    private int restores = 0;

    public BoilerRoll() {
    }

    // ---- days, acts

    public int pass(int day) {
        return told(roll.goTo(day));
    }

    public int vessel(int owner, int safety, int makes, int day) {
        return told(roll.enterVessel(owner, safety, makes, day));
    }

    public int part(int vessel, int kind, int strength, int radius, int thickness, int share) {
        return told(roll.enterPart(vessel, kind, strength, radius, thickness, share));
    }

    public int shape(int vessel, int part, int spots, int wear, int many) {
        return told(roll.enterShape(vessel, part, spots, wear, many));
    }

    public int sheet(int kind, int n) {
        return told(sheet.begin(kind, n));
    }

    public boolean entry(int i, int v) {
        return sheet.write(i, v);
    }

    public int measure(int vessel, int part, int day) {
        return told(fileSheet(vessel, part, day));
    }

    public int patch(int vessel, int part, int strength, int thickness, int share, int day) {
        return told(roll.enterPatch(vessel, part, strength, thickness, share, day));
    }

    public int plate(int vessel, int part, int thickness, int day) {
        return told(roll.enterPlate(vessel, part, thickness, day));
    }

    public int plug(int vessel, int part, int n, int day) {
        return told(roll.enterPlug(vessel, part, n, day));
    }

    public int valve(int vessel, int setting, int passes, int day) {
        return told(roll.enterValve(vessel, setting, passes, day));
    }

    public int set(int vessel, int valve, int setting, int day) {
        return told(roll.enterSet(vessel, valve, setting, day));
    }

    public int paper(int vessel, int kind, int who, int found, int day) {
        return told(roll.enterPaper(vessel, kind, who, found, day));
    }

    public int rule(int kind, int young, int old) {
        return told(roll.enterRule(kind, young, old));
    }

    public int undo() {
        return told(roll.takeBack());
    }

    public int status() {
        return status;
    }

    public int count(int what, int v) {
        return roll.countOf(what, v);
    }

    // ---- what holds on a day, as known on a day

    public int thick(int vessel, int part, int spot, int day, int known) {
        PartView seen = partOn(vessel, part, day, known);
        return seen == null || !seen.hasSpot(spot) ? NONE : seen.thickOn(spot, day);
    }

    public int doubts(int vessel, int part, int day, int known) {
        PartView seen = partOn(vessel, part, day, known);
        return seen == null ? NONE : seen.spotsInDoubt();
    }

    public int bears(int vessel, int part, int day, int known) {
        PartView seen = partOn(vessel, part, day, known);
        return seen == null ? NONE : seen.bearsOn(day, view.safety());
    }

    public int weakest(int vessel, int day, int known) {
        return opened(vessel, day, known) ? view.weakestPart(day) : NONE;
    }

    public int holds(int vessel, int what, int day, int known) {
        return opened(vessel, day, known) ? view.number(what) : NONE;
    }

    public int due(int vessel, int kind, int day, int known) {
        if (!within(kind, 0, DUE_KINDS - 1) || !opened(vessel, day, known)) {
            return NONE;
        }
        return view.dueDay(kind);
    }

    public int why(int vessel, int day, int known) {
        if (!asked(vessel, day, known)) {
            return NONE;
        }
        view.open(roll, vessel, day, known);
        return view.reason(day);
    }

    public int may(int vessel, int day, int known) {
        if (!asked(vessel, day, known)) {
            return NONE;
        }
        view.open(roll, vessel, day, known);
        return view.allowed(day);
    }

    public int until(int vessel, int day, int known) {
        if (!asked(vessel, day, known)) {
            return NONE;
        }
        view.open(roll, vessel, day, known);
        return view.lastAllowedDay(day);
    }

    public int when(int vessel, int part, int day, int known) {
        return partOn(vessel, part, day, known) == null ? NONE : view.firstWeakDay(part, day);
    }

    public int check(int vessel, int day, int known, int pressure, int last) {
        if (!asked(vessel, day, known)) {
            return NONE;
        }
        view.open(roll, vessel, day, known);
        if (view.allowed(day) != pressure) {
            return 1;
        }
        return view.lastAllowedDay(day) == last ? 0 : 2;
    }

    public int list(int from, int to) {
        int today = roll.today();
        listing.begin(today);
        for (int vessel = 0; vessel < roll.vesselCount(); vessel++) {
            if (view.open(roll, vessel, today, today)) {
                listVessel(vessel, from, to);
            }
        }
        return listing.size();
    }

    public int listed(int i, int what) {
        return listing.number(i, what);
    }

    // ---- the image

    public int image() {
        return roll.imageRow().size();
    }

    public int imageAt(int i) {
        return roll.imageRow().at(i);
    }

    public int feed(int a, int b, int c, int d, int e) {
        if (tape.size() + 5 > MOST_INTS) {
            return NONE;
        }
        tape.add(a).add(b).add(c).add(d).add(e);
        return tape.size();
    }

    public boolean end(int n) {
        return tape.cut(n);
    }

    public int again() {
        tape.takeAll(roll.imageRow());
        return tape.size();
    }

    public int restore() {
        if (restores >= MOST_RESTORES) {
            tape.cut(0);
            return FULL;
        }
        restores++;
        int answer = spare.goOver(tape);
        tape.cut(0);
        if (answer >= 0) {
            goOnWithSpare();
        }
        return answer;
    }

    // ---- behind the face

    private int told(int answer) {
        status = answer < 0 ? answer : 0;
        return answer;
    }

    private int fileSheet(int vessel, int part, int day) {
        int spots = roll.spotsOf(vessel, part);
        if (spots < 0) {
            return NONE;
        }
        if (!sheet.isThere()) {
            return STATE;
        }
        tenths.refill(MOST_SPOTS, UNMEASURED);
        for (int spot = 0; spot < spots; spot++) {
            tenths.put(spot, sheet.tenths(spot));
        }
        int measured = roll.enterMeasure(vessel, part, day, tenths, 0);
        if (measured >= 0) {
            sheet.drop();
        }
        return measured;
    }

    private boolean asked(int vessel, int day, int known) {
        return within(vessel, 0, roll.vesselCount() - 1) && within(day, 0, LAST_DAY) && within(known, 0, LAST_DAY);
    }

    private boolean opened(int vessel, int day, int known) {
        return asked(vessel, day, known) && view.open(roll, vessel, day, known);
    }

    private PartView partOn(int vessel, int part, int day, int known) {
        // not by opened(): with it, calls would go nine deep
        return asked(vessel, day, known) && view.open(roll, vessel, day, known) ? view.partAt(part) : null;
    }

    private void listVessel(int vessel, int from, int to) {
        for (int kind = 0; kind < DUE_KINDS; kind++) {
            int day = view.dueDay(kind);
            if (day >= from && day <= to) {
                listing.insert(day, vessel, kind);
            }
        }
    }

    private void goOnWithSpare() {
        Roll before = roll;
        roll = spare;
        spare = before;
        sheet.drop();
        listing.begin(0);
        status = 0;
    }

    private static boolean within(int number, int least, int most) {
        return number >= least && number <= most;
    }

    /** A row of ints that grows up to a limit; every index into one is looked at here. */
    private static final class Row {
        private static final int FIRST_CELLS = 16;

        private final int limit;
        private int[] cells;
        private int size;

        Row(int limit) {
            this.limit = limit;
            cells = new int[limit > 0 && limit < FIRST_CELLS ? limit : FIRST_CELLS];
            size = 0;
        }

        int size() {
            return size;
        }

        /** The int at i; 0 where there is none. */
        int at(int i) {
            return i >= 0 && i < size && i < cells.length ? cells[i] : 0;
        }

        void put(int i, int value) {
            if (i >= 0 && i < size && i < cells.length) {
                cells[i] = value;
            }
        }

        Row add(int value) {
            if (size >= limit) {
                return this;
            }
            if (size >= cells.length) {
                cells = Arrays.copyOf(cells, Math.min(limit, cells.length * 2));
            }
            if (size >= 0 && size < cells.length) {
                cells[size] = value;
                size++;
            }
            return this;
        }

        boolean cut(int n) {
            if (n < 0 || n > size) {
                return false;
            }
            size = n;
            return true;
        }

        void refill(int n, int value) {
            size = 0;
            for (int i = 0; i < n && i < limit; i++) {
                add(value);
            }
        }

        void takeAll(Row other) {
            size = 0;
            for (int i = 0; i < other.size; i++) {
                add(other.at(i));
            }
        }
    }

    /** The sheet that is to be filed, if there is one. */
    private static final class Sheet {
        private static final int NO_SHEET = -1;
        private static final int SHORTS = 0;
        private static final int MISSING = 2;
        /** Stands for tenths that no measure may tell; UNMEASURED must stay apart from an entry of -1. */
        private static final int WRONG_TENTHS = -2;

        private final Row entries = new Row(MOST_ENTRIES);
        private int kind = NO_SHEET;

        boolean isThere() {
            return kind != NO_SHEET;
        }

        int begin(int newKind, int n) {
            if (newKind < SHORTS || newKind > MISSING || n > MOST_ENTRIES) {
                return RANGE;
            }
            if (newKind != MISSING && n < 0) {
                return STATE;
            }
            kind = newKind;
            entries.refill(newKind == MISSING ? 0 : n, 0);
            return entries.size();
        }

        /** No sheet and a missing one have no entries. */
        boolean write(int i, int value) {
            if (i < 0 || i >= entries.size()) {
                return false;
            }
            entries.put(i, value);
            return true;
        }

        void drop() {
            kind = NO_SHEET;
            entries.cut(0);
        }

        int tenths(int i) {
            if (i < 0 || i >= entries.size()) {
                return UNMEASURED;
            }
            int bits = entries.at(i);
            if (kind != SHORTS && isNoNumber(bits)) {
                return UNMEASURED;
            }
            int tenths = kind == SHORTS ? (short) bits : tenthsOfFloat(bits);
            return within(tenths, 0, MOST_TENTHS) ? tenths : WRONG_TENTHS;
        }

        private static boolean isNoNumber(int bits) {
            return (bits & 0x7FFFFFFF) > 0x7F800000;
        }

        /**
         * Ten times the float with these bits, as a float, cut towards 0. Ten times its digits alone
         * rounds as ten times the float does: a power of two moves no rounding. What is far from a
         * measure is not shifted: WRONG_TENTHS where it is 2048 or more, 0 where it is below 1 / 64.
         */
        private static int tenthsOfFloat(int bits) {
            int exponent = (bits >>> 23) & 255;
            if (exponent < 121) {
                return 0;
            }
            if (exponent > 137) {
                return WRONG_TENTHS;
            }
            int digits = (bits & 0x7FFFFF) | 0x800000;
            int cut = (int) (10f * digits) >> (150 - exponent);
            return bits < 0 ? -cut : cut;
        }
    }

    /** What stands on the roll now of one vessel: as much as the next acts are judged by. */
    private static final class Vessel {
        private int owner;
        private int safety;
        private int makes;
        private int built;
        private int enteredOn;
        private int papers;
        private final Row kinds = new Row(MOST_PARTS);
        private final Row spots = new Row(MOST_PARTS);
        private final Row many = new Row(MOST_PARTS);
        private final Row touches = new Row(MOST_PARTS);
        private final Row valveDays = new Row(MOST_VALVES);

        void begin(Row image, int place, int today) {
            owner = image.at(place + 1);
            safety = image.at(place + 2);
            makes = image.at(place + 3);
            built = image.at(place + 4);
            enteredOn = today;
            papers = 0;
            kinds.cut(0);
            spots.cut(0);
            many.cut(0);
            touches.cut(0);
            valveDays.cut(0);
        }

        void note(Row image, int place) {
            int part = image.at(place + 2);
            switch (image.at(place)) {
                case PART:
                    kinds.add(image.at(place + 2));
                    spots.add(1);
                    many.add(1);
                    touches.add(0);
                    break;
                case SHAPE:
                    spots.put(part, image.at(place + 3));
                    many.put(part, image.at(place + 5));
                    break;
                case MEASURE:
                case PATCH:
                case PLATE:
                case PLUG:
                    touches.put(part, touches.at(part) + 1);
                    break;
                case VALVE:
                    valveDays.add(image.at(place + 4));
                    break;
                case PAPER:
                    papers++;
                    break;
                default:
                    break;
            }
        }

        boolean hasPart(int part) {
            return part >= 0 && part < kinds.size();
        }

        boolean hasValve(int valve) {
            return valve >= 0 && valve < valveDays.size();
        }
    }

    /** The acts that stand, as their image, and what the next acts are judged by. */
    private static final class Roll {
        private static final int[] LENGTHS = {2, 5, 7, 6, 16, 7, 5, 5, 5, 5, 6, 4};

        private final Row image = new Row(MOST_INTS);
        private final Row places = new Row(MOST_ACTS);
        private final Row entryDays = new Row(MOST_ACTS);
        private final Vessel[] vessels = new Vessel[MOST_VESSELS];
        private int vesselCount = 0;
        private int rules = 0;
        private int passes = 0;
        private int today = 0;
        /** So many acts, from the first one on, can't be taken back. */
        private int kept = 0;

        Row imageRow() {
            return image;
        }

        int today() {
            return today;
        }

        int vesselCount() {
            return vesselCount;
        }

        int placeOf(int act) {
            return places.at(act);
        }

        /** Days of entry never fall, so what is known on a day are the first acts. */
        int actsKnown(int known) {
            int acts = places.size();
            while (acts > 0 && entryDays.at(acts - 1) > known) {
                acts--;
            }
            return acts;
        }

        Vessel vesselAt(int vessel) {
            return vessel >= 0 && vessel < vesselCount && vessel < vessels.length ? vessels[vessel] : null;
        }

        int spotsOf(int vessel, int part) {
            Vessel at = vesselAt(vessel);
            return at == null || !at.hasPart(part) ? NONE : at.spots.at(part);
        }

        int countOf(int what, int vessel) {
            switch (what) {
                case 0:
                    return today;
                case 1:
                    return vesselCount;
                case 2:
                    return places.size();
                case 3:
                    return passes;
                case 4:
                    return rules;
                default:
                    return countOfVessel(what, vesselAt(vessel));
            }
        }

        private static int countOfVessel(int what, Vessel at) {
            if (at == null) {
                return NONE;
            }
            switch (what) {
                case 5:
                    return at.kinds.size();
                case 6:
                    return at.valveDays.size();
                case 7:
                    return at.papers;
                default:
                    return NONE;
            }
        }

        int goTo(int day) {
            if (!within(day, today, LAST_DAY)) {
                return RANGE;
            }
            if (passes >= MOST_PASSES) {
                return FULL;
            }
            today = day;
            passes++;
            kept = places.size();
            image.add(PASS).add(day);
            return day;
        }

        int enterVessel(int owner, int safety, int makes, int day) {
            if (!within(owner, 0, 999) || !within(safety, 1, 20) || !within(makes, 0, 100000)
                    || !within(day, 0, today)) {
                return RANGE;
            }
            if (vesselCount >= MOST_VESSELS || isFull()) {
                return FULL;
            }
            begin(VESSEL).add(owner).add(safety).add(makes).add(day);
            return noted(lastAct(), vesselCount);
        }

        int enterPart(int vessel, int kind, int strength, int radius, int thickness, int share) {
            Vessel at = vesselAt(vessel);
            if (at == null) {
                return NONE;
            }
            if (!within(kind, 0, SEAM) || !isPlate(strength, thickness, share) || !within(radius, 1, 100000)) {
                return RANGE;
            }
            if (at.kinds.size() >= MOST_PARTS || isFull()) {
                return FULL;
            }
            begin(PART).add(vessel).add(kind).add(strength).add(radius).add(thickness).add(share);
            return noted(lastAct(), at.kinds.size());
        }

        int enterShape(int vessel, int part, int spots, int wear, int many) {
            Vessel at = vesselAt(vessel);
            if (at == null || !at.hasPart(part)) {
                return NONE;
            }
            int most = at.kinds.at(part) == TUBES ? 500 : 1;
            if (!within(spots, 1, MOST_SPOTS) || !within(wear, 0, 1000) || !within(many, 1, most)) {
                return RANGE;
            }
            if (at.touches.at(part) > 0) {
                return STATE;
            }
            if (isFull()) {
                return FULL;
            }
            begin(SHAPE).add(vessel).add(part).add(spots).add(wear).add(many);
            return noted(lastAct(), spots);
        }

        /** The twelve tenths stand in a row from a place on. */
        int enterMeasure(int vessel, int part, int day, Row tenths, int first) {
            Vessel at = vesselAt(vessel);
            if (at == null || !at.hasPart(part)) {
                return NONE;
            }
            if (!within(day, at.built, today) || !areTenths(tenths, first, at.spots.at(part))) {
                return RANGE;
            }
            if (isFull()) {
                return FULL;
            }
            begin(MEASURE).add(vessel).add(part).add(day);
            int measured = 0;
            for (int spot = 0; spot < MOST_SPOTS; spot++) {
                int told = tenths.at(first + spot);
                image.add(told);
                measured += told == UNMEASURED ? 0 : 1;
            }
            return noted(lastAct(), measured);
        }

        int enterPatch(int vessel, int part, int strength, int thickness, int share, int day) {
            Vessel at = vesselAt(vessel);
            if (at == null || !at.hasPart(part)) {
                return NONE;
            }
            if (!isPlate(strength, thickness, share) || !within(day, at.built, today)) {
                return RANGE;
            }
            if (isFull()) {
                return FULL;
            }
            begin(PATCH).add(vessel).add(part).add(strength).add(thickness).add(share).add(day);
            return noted(lastAct(), 1);
        }

        int enterPlate(int vessel, int part, int thickness, int day) {
            Vessel at = vesselAt(vessel);
            if (at == null || !at.hasPart(part)) {
                return NONE;
            }
            if (!within(thickness, 1, MOST_TENTHS) || !within(day, at.built, today)) {
                return RANGE;
            }
            if (isFull()) {
                return FULL;
            }
            begin(PLATE).add(vessel).add(part).add(thickness).add(day);
            return noted(lastAct(), 1);
        }

        int enterPlug(int vessel, int part, int n, int day) {
            Vessel at = vesselAt(vessel);
            if (at == null || !at.hasPart(part) || at.kinds.at(part) != TUBES) {
                return NONE;
            }
            if (!within(n, 0, at.many.at(part)) || !within(day, at.built, today)) {
                return RANGE;
            }
            if (isFull()) {
                return FULL;
            }
            begin(PLUG).add(vessel).add(part).add(n).add(day);
            return noted(lastAct(), n);
        }

        int enterValve(int vessel, int setting, int passing, int day) {
            Vessel at = vesselAt(vessel);
            if (at == null) {
                return NONE;
            }
            if (!within(setting, 1, 10000) || !within(passing, 1, 100000) || !within(day, at.built, today)) {
                return RANGE;
            }
            if (at.valveDays.size() >= MOST_VALVES || isFull()) {
                return FULL;
            }
            begin(VALVE).add(vessel).add(setting).add(passing).add(day);
            return noted(lastAct(), at.valveDays.size());
        }

        int enterSet(int vessel, int valve, int setting, int day) {
            Vessel at = vesselAt(vessel);
            if (at == null || !at.hasValve(valve)) {
                return NONE;
            }
            if (!within(setting, 1, 10000) || !within(day, at.valveDays.at(valve), today)) {
                return RANGE;
            }
            if (isFull()) {
                return FULL;
            }
            begin(SET).add(vessel).add(valve).add(setting).add(day);
            return noted(lastAct(), setting);
        }

        int enterPaper(int vessel, int kind, int who, int found, int day) {
            Vessel at = vesselAt(vessel);
            if (at == null) {
                return NONE;
            }
            if (!within(kind, 0, SOLD) || !within(who, 0, 999) || !within(found, 0, 9999)
                    || !within(day, at.built, today)) {
                return RANGE;
            }
            if (isFull()) {
                return FULL;
            }
            begin(PAPER).add(vessel).add(kind).add(who).add(found).add(day);
            return noted(lastAct(), at.papers + 1);
        }

        int enterRule(int kind, int young, int old) {
            if (!within(kind, 0, DUE_KINDS - 1) || !within(young, 1, 4000) || !within(old, 1, 4000)) {
                return RANGE;
            }
            if (isFull()) {
                return FULL;
            }
            begin(RULE).add(kind).add(young).add(old);
            return noted(lastAct(), rules + 1);
        }

        /** What was noted is noted anew from the first act on: so nothing of the last one stays. */
        int takeBack() {
            int act = lastAct();
            if (act < kept) {
                return NONE;
            }
            int place = places.at(act);
            int code = image.at(place);
            image.cut(place);
            places.cut(act);
            entryDays.cut(act);
            vesselCount = 0;
            rules = 0;
            for (int i = 0; i < act; i++) {
                noted(i, code);
            }
            return code;
        }

        /** The roll becomes what a tape tells: how many acts, or -10 less the place that can't be. */
        int goOver(Row tape) {
            clear();
            int place = 0;
            while (place < tape.size()) {
                int length = lengthOf(tape.at(place));
                if (length < 1 || length > tape.size() - place || enterFrom(tape, place) < 0) {
                    return -10 - place;
                }
                place += length;
            }
            kept = places.size();
            return kept;
        }

        private void clear() {
            image.cut(0);
            places.cut(0);
            entryDays.cut(0);
            vesselCount = 0;
            rules = 0;
            passes = 0;
            today = 0;
            kept = 0;
        }

        private static int lengthOf(int code) {
            return code >= 0 && code < LENGTHS.length ? LENGTHS[code] : 0;
        }

        private int enterFrom(Row tape, int place) {
            int a = tape.at(place + 1);
            int b = tape.at(place + 2);
            int c = tape.at(place + 3);
            int d = tape.at(place + 4);
            int e = tape.at(place + 5);
            int f = tape.at(place + 6);
            switch (tape.at(place)) {
                case PASS:
                    return goTo(a);
                case VESSEL:
                    return enterVessel(a, b, c, d);
                case PART:
                    return enterPart(a, b, c, d, e, f);
                case SHAPE:
                    return enterShape(a, b, c, d, e);
                case MEASURE:
                    return enterMeasure(a, b, c, tape, place + 4);
                case PATCH:
                    return enterPatch(a, b, c, d, e, f);
                case PLATE:
                    return enterPlate(a, b, c, d);
                case PLUG:
                    return enterPlug(a, b, c, d);
                case VALVE:
                    return enterValve(a, b, c, d);
                case SET:
                    return enterSet(a, b, c, d);
                case PAPER:
                    return enterPaper(a, b, c, d, e);
                case RULE:
                    return enterRule(a, b, c);
                default:
                    return NONE;
            }
        }

        private static boolean isPlate(int strength, int thickness, int share) {
            return within(strength, 1, 100000) && within(thickness, 1, MOST_TENTHS) && within(share, 1, 1000);
        }

        private static boolean areTenths(Row tenths, int first, int spots) {
            for (int spot = 0; spot < MOST_SPOTS; spot++) {
                int most = spot < spots ? MOST_TENTHS : UNMEASURED;
                if (!within(tenths.at(first + spot), UNMEASURED, most)) {
                    return false;
                }
            }
            return true;
        }

        private boolean isFull() {
            return places.size() >= MOST_ACTS;
        }

        private Row begin(int code) {
            places.add(image.size());
            entryDays.add(today);
            return image.add(code);
        }

        private int lastAct() {
            return places.size() - 1;
        }

        /** Notes an act that stands and hands on the answer of the call that entered it. */
        private int noted(int act, int answer) {
            int place = places.at(act);
            int code = image.at(place);
            if (code == RULE) {
                rules++;
                return answer;
            }
            if (code == VESSEL && vesselCount >= 0 && vesselCount < vessels.length) {
                Vessel fresh = vessels[vesselCount] == null ? new Vessel() : vessels[vesselCount];
                fresh.begin(image, place, entryDays.at(act));
                vessels[vesselCount] = fresh;
                vesselCount++;
                return answer;
            }
            Vessel at = vesselAt(image.at(place + 1));
            if (at != null) {
                at.note(image, place);
            }
            return answer;
        }
    }

    /** The end of a spot's row of thicknesses, and what is ahead of that end. */
    private static final class Spot {
        private static final int NO_DAY = -1;

        private int endDay;
        private int endTenths;
        private int backDay;
        private int backTenths;

        void begin(int day, int tenths) {
            endDay = day;
            endTenths = tenths;
            backDay = NO_DAY;
            backTenths = 0;
        }

        /** Measures come in the order of their entry: a later one of a day takes that day's place. */
        void take(int day, int tenths) {
            if (day > endDay) {
                backDay = endDay;
                backTenths = endTenths;
                endDay = day;
                endTenths = tenths;
            } else if (day == endDay) {
                endTenths = tenths;
            } else if (day >= backDay) {
                backDay = day;
                backTenths = tenths;
            }
        }

        boolean isInDoubt() {
            return backDay != NO_DAY && endTenths > backTenths;
        }

        int thickOn(int day, int wear) {
            long gone = wear;
            long span = 365;
            if (backDay != NO_DAY && 365L * (backTenths - endTenths) > (long) wear * (endDay - backDay)) {
                gone = backTenths - endTenths;
                span = endDay - backDay;
            }
            if (span < 1) {
                return 0;
            }
            // what has gone is cut up, so that what is left is cut down
            long left = endTenths - (gone * (day - endDay) + span - 1) / span;
            return left < 0 ? 0 : (int) left;
        }
    }

    /** What holds of one part. */
    private static final class PartView {
        private static final int NO_DAY = -1;

        private int kind;
        private int strength;
        private int radius;
        private int share;
        private int spots;
        private int wear;
        private int many;
        private int plateAct;
        private int plateDay;
        private int plateThickness;
        private int mendDay;
        /** Strength, thickness and share of the patch, times each other; 0 if the last mend is none. */
        private long patchWorth;
        private int plugDay;
        private int plugged;
        private final Spot[] rows = new Spot[MOST_SPOTS];

        PartView() {
            for (int i = 0; i < rows.length; i++) {
                rows[i] = new Spot();
            }
        }

        void begin(Row image, int place, int act, int built) {
            kind = image.at(place + 2);
            strength = image.at(place + 3);
            radius = image.at(place + 4);
            share = image.at(place + 6);
            spots = 1;
            wear = 0;
            many = 1;
            plateAct = act;
            plateDay = built;
            plateThickness = image.at(place + 5);
            mendDay = NO_DAY;
            patchWorth = 0;
            plugDay = NO_DAY;
            plugged = 0;
        }

        void takeShape(Row image, int place) {
            spots = image.at(place + 3);
            wear = image.at(place + 4);
            many = image.at(place + 5);
        }

        void takePatch(Row image, int place, int day) {
            if (day >= mendDay) {
                mendDay = day;
                patchWorth = (long) image.at(place + 3) * image.at(place + 4) * image.at(place + 5);
            }
        }

        void takePlate(int act, int thickness, int day) {
            if (day >= plateDay) {
                plateAct = act;
                plateDay = day;
                plateThickness = thickness;
            }
            if (day >= mendDay) {
                mendDay = day;
                patchWorth = 0;
            }
        }

        void takePlug(int n, int day) {
            if (day >= plugDay) {
                plugDay = day;
                plugged = n;
            }
        }

        void beginRows() {
            for (int i = 0; i < rows.length; i++) {
                rows[i].begin(plateDay, plateThickness);
            }
        }

        void takeMeasure(Row image, int place, int act, int day) {
            if (day < plateDay || day == plateDay && act < plateAct) {
                return;
            }
            for (int i = 0; i < rows.length; i++) {
                int tenths = image.at(place + 4 + i);
                if (tenths != UNMEASURED) {
                    rows[i].take(day, tenths);
                }
            }
        }

        boolean hasSpot(int spot) {
            return spot >= 0 && spot < spots;
        }

        int thickOn(int spot, int day) {
            return spot >= 0 && spot < rows.length ? rows[spot].thickOn(day, wear) : 0;
        }

        int spotsInDoubt() {
            int found = 0;
            for (int i = 0; i < spots && i < rows.length; i++) {
                found += rows[i].isInDoubt() ? 1 : 0;
            }
            return found;
        }

        int bearsOn(int day, int safety) {
            if (kind == TUBES && plugged >= many) {
                return BEYOND;
            }
            long force = (long) strength * leastThick(day) * share;
            long width = 1000L * radius * safety;
            long borne = quotient(force * overOfKind(), width * underOfKind());
            if (patchWorth > 0) {
                borne = Math.min(borne, quotient(patchWorth * 4, width * 5));
            }
            return (int) borne;
        }

        int tubes() {
            return kind == TUBES ? many : 0;
        }

        int pluggedTubes() {
            return kind == TUBES ? plugged : 0;
        }

        private int leastThick(int day) {
            int least = MOST_TENTHS;
            for (int i = 0; i < spots && i < rows.length; i++) {
                least = Math.min(least, rows[i].thickOn(day, wear));
            }
            return least;
        }

        private int overOfKind() {
            return kind == DOOR ? 9 : 1;
        }

        private int underOfKind() {
            if (kind == END) {
                return 2;
            }
            return kind == DOOR ? 20 : 1;
        }

        private static long quotient(long over, long under) {
            return under < 1 ? 0 : over / under;
        }
    }

    /** The valves that are there, and their settings. */
    private static final class Valves {
        private static final int NOT_THERE = -1;

        private final Row settings = new Row(MOST_VALVES);
        private final Row days = new Row(MOST_VALVES);
        private final Row passes = new Row(MOST_VALVES);

        void clear() {
            settings.cut(0);
            days.cut(0);
            passes.cut(0);
        }

        /** One that is known, but of a later day, keeps its number: a set() names it by that. */
        void addLater() {
            settings.add(0);
            days.add(NOT_THERE);
            passes.add(0);
        }

        void add(int setting, int passing, int day) {
            settings.add(setting);
            days.add(day);
            passes.add(passing);
        }

        void takeSet(int valve, int setting, int day) {
            if (day >= days.at(valve)) {
                settings.put(valve, setting);
                days.put(valve, day);
            }
        }

        /** NONE without valves. */
        int greatest() {
            int found = NONE;
            for (int i = 0; i < days.size(); i++) {
                if (days.at(i) != NOT_THERE) {
                    found = Math.max(found, settings.at(i));
                }
            }
            return found;
        }

        /** NONE without valves. */
        int least() {
            int found = NONE;
            for (int i = 0; i < days.size(); i++) {
                if (days.at(i) != NOT_THERE && (found == NONE || settings.at(i) < found)) {
                    found = settings.at(i);
                }
            }
            return found;
        }

        int passTogether() {
            int sum = 0;
            for (int i = 0; i < passes.size(); i++) {
                sum += passes.at(i);
            }
            return sum;
        }
    }

    /** What the papers, the rules and the days of the mends tell of a vessel. */
    private static final class Papers {
        private static final int NO_DAY = -1;
        private static final int YOUNG_DAYS = 7300;
        private static final int DAYS_WITHOUT_RULE = 365;

        private int built;
        private int owner;
        private int soldDay;
        /** The greatest day of what stops and was not freed behind it: a mend that lifts that lifts all. */
        private int stopDay;
        private int testDay;
        private int mendDay;
        private int testedMendDay;
        private final Row goodDays = new Row(DUE_KINDS);
        private final Row young = new Row(DUE_KINDS);
        private final Row old = new Row(DUE_KINDS);

        void begin(int builtOn, int firstOwner) {
            built = builtOn;
            owner = firstOwner;
            soldDay = NO_DAY;
            stopDay = NO_DAY;
            testDay = NO_DAY;
            mendDay = NO_DAY;
            testedMendDay = NO_DAY;
            goodDays.refill(DUE_KINDS, builtOn);
            young.refill(DUE_KINDS, DAYS_WITHOUT_RULE);
            old.refill(DUE_KINDS, DAYS_WITHOUT_RULE);
        }

        void takeRule(int kind, int daysYoung, int daysOld) {
            young.put(kind, daysYoung);
            old.put(kind, daysOld);
        }

        void takePaper(int kind, int who, int found, int day) {
            if (kind == STOP || kind <= TEST && found != 0) {
                stopDay = Math.max(stopDay, day);
            } else if (kind <= TEST) {
                goodDays.put(kind, Math.max(goodDays.at(kind), day));
                testDay = kind == TEST ? Math.max(testDay, day) : testDay;
            } else if (kind == FREE) {
                stopDay = day >= stopDay ? NO_DAY : stopDay;
            } else if (kind == SOLD && day >= soldDay) {
                soldDay = day;
                owner = who;
            }
        }

        /** Asked when all papers were taken: a good test of any time of entry makes a mend tested. */
        void takeMend(int day) {
            mendDay = Math.max(mendDay, day);
            if (day <= testDay) {
                testedMendDay = Math.max(testedMendDay, day);
            }
        }

        int owner() {
            return owner;
        }

        boolean isStopped() {
            return stopDay > testedMendDay;
        }

        boolean isMendUntested() {
            return mendDay > testDay;
        }

        int dueDay(int kind) {
            int good = goodDays.at(kind);
            return good + (good - built < YOUNG_DAYS ? young.at(kind) : old.at(kind));
        }
    }

    /** What holds of one vessel on a day, as known on a day: read out of the image by open(). */
    private static final class View {
        private final PartView[] parts = new PartView[MOST_PARTS];
        private final Valves valves = new Valves();
        private final Papers papers = new Papers();
        private int partCount = 0;
        private Roll roll = null;
        private int vessel = NONE;
        private int known = 0;
        private boolean there = false;
        private int safety = 1;
        private int makes = 0;
        /** The last day up to which nothing that is known begins to hold. */
        private int steadyDay = 0;

        View() {
            for (int i = 0; i < parts.length; i++) {
                parts[i] = new PartView();
            }
        }

        /** Whether the vessel is known, and built. */
        boolean open(Roll from, int ofVessel, int day, int knownOn) {
            roll = from;
            vessel = ofVessel;
            known = knownOn;
            partCount = 0;
            steadyDay = LAST_DAY;
            valves.clear();
            Vessel at = from.vesselAt(ofVessel);
            there = at != null && at.enteredOn <= knownOn && at.built <= day;
            if (at == null || !there) {
                return false;
            }
            safety = at.safety;
            makes = at.makes;
            papers.begin(at.built, at.owner);
            readActs(from, at.built, day);
            return true;
        }

        /** Measures wait for the last plate, mends for the last test: so the acts are read twice. */
        private void readActs(Roll from, int built, int day) {
            Row image = from.imageRow();
            int acts = from.actsKnown(known);
            for (int act = 0; act < acts; act++) {
                int place = from.placeOf(act);
                int code = image.at(place);
                if (code == RULE) {
                    papers.takeRule(image.at(place + 1), image.at(place + 2), image.at(place + 3));
                } else if (code == VESSEL || image.at(place + 1) != vessel) {
                    continue;
                } else if (code == PART) {
                    readPart(image, place, act, built);
                } else if (code <= PLUG) {
                    readActOfPart(image, place, act, day);
                } else {
                    readActOfVessel(image, place, day);
                }
            }
            for (int i = 0; i < partCount && i < parts.length; i++) {
                parts[i].beginRows();
            }
            for (int act = 0; act < acts; act++) {
                int place = from.placeOf(act);
                int code = image.at(place);
                if (code >= MEASURE && code <= PLATE && image.at(place + 1) == vessel) {
                    readAgain(image, place, act, day);
                }
            }
        }

        private void readPart(Row image, int place, int act, int built) {
            if (partCount >= 0 && partCount < parts.length) {
                parts[partCount].begin(image, place, act, built);
                partCount++;
            }
        }

        private void readActOfPart(Row image, int place, int act, int day) {
            PartView part = partAt(image.at(place + 2));
            if (part == null) {
                return;
            }
            switch (image.at(place)) {
                case SHAPE:
                    part.takeShape(image, place);
                    break;
                case MEASURE:
                    begins(image.at(place + 3), day);
                    break;
                case PATCH:
                    if (begins(image.at(place + 6), day)) {
                        part.takePatch(image, place, image.at(place + 6));
                    }
                    break;
                case PLATE:
                    if (begins(image.at(place + 4), day)) {
                        part.takePlate(act, image.at(place + 3), image.at(place + 4));
                    }
                    break;
                case PLUG:
                    if (begins(image.at(place + 4), day)) {
                        part.takePlug(image.at(place + 3), image.at(place + 4));
                    }
                    break;
                default:
                    break;
            }
        }

        private void readActOfVessel(Row image, int place, int day) {
            int a = image.at(place + 2);
            int b = image.at(place + 3);
            int c = image.at(place + 4);
            switch (image.at(place)) {
                case VALVE:
                    if (begins(c, day)) {
                        valves.add(a, b, c);
                    } else {
                        valves.addLater();
                    }
                    break;
                case SET:
                    if (begins(c, day)) {
                        valves.takeSet(a, b, c);
                    }
                    break;
                case PAPER:
                    if (begins(image.at(place + 5), day)) {
                        papers.takePaper(a, b, c, image.at(place + 5));
                    }
                    break;
                default:
                    break;
            }
        }

        private void readAgain(Row image, int place, int act, int day) {
            int code = image.at(place);
            if (code == MEASURE) {
                PartView part = partAt(image.at(place + 2));
                if (part != null && image.at(place + 3) <= day) {
                    part.takeMeasure(image, place, act, image.at(place + 3));
                }
                return;
            }
            int mendDay = image.at(place + (code == PATCH ? 6 : 4));
            if (mendDay <= day) {
                papers.takeMend(mendDay);
            }
        }

        /** Whether an act of a day holds; if not, that day ends the time in which nothing changes. */
        private boolean begins(int actDay, int day) {
            if (actDay <= day) {
                return true;
            }
            steadyDay = Math.min(steadyDay, actDay - 1);
            return false;
        }

        PartView partAt(int part) {
            return part >= 0 && part < partCount && part < parts.length ? parts[part] : null;
        }

        int safety() {
            return safety;
        }

        int dueDay(int kind) {
            return papers.dueDay(kind);
        }

        int weakestPart(int day) {
            int found = NONE;
            int least = 0;
            for (int i = 0; i < partCount && i < parts.length; i++) {
                int borne = parts[i].bearsOn(day, safety);
                if (found == NONE || borne < least) {
                    found = i;
                    least = borne;
                }
            }
            return found;
        }

        int number(int what) {
            switch (what) {
                case 0:
                    return valves.greatest();
                case 1:
                    return valves.least();
                case 2:
                    return valves.passTogether();
                case 3:
                    return tubes();
                case 4:
                    return pluggedTubes();
                case 5:
                    return papers.owner();
                default:
                    return NONE;
            }
        }

        int reason(int day) {
            if (!there) {
                return 1;
            }
            if (papers.isStopped()) {
                return 2;
            }
            for (int kind = 0; kind < DUE_KINDS; kind++) {
                if (day > papers.dueDay(kind)) {
                    return 3 + kind;
                }
            }
            if (papers.isMendUntested()) {
                return 6;
            }
            int greatest = valves.greatest();
            if (greatest == NONE) {
                return 7;
            }
            int weak = firstBelow(greatest, day);
            return weak == NONE ? reasonOfTubes() : 8 + 16 * weak;
        }

        int allowed(int day) {
            return reason(day) == 0 ? valves.least() : 0;
        }

        /** NONE if the vessel may not be fired on the day. The view goes on to later days. */
        int lastAllowedDay(int day) {
            int last = NONE;
            int bound = Math.min(LAST_DAY, day + DAYS_AHEAD);
            for (int at = day; at <= bound; at++) {
                if (at > steadyDay && roll != null) {
                    open(roll, vessel, at, known);
                }
                if (reason(at) != 0) {
                    return last;
                }
                last = at;
            }
            return last;
        }

        /** NONE if the part bears the greatest setting on all these days. The view goes on to later days. */
        int firstWeakDay(int part, int day) {
            int bound = Math.min(LAST_DAY, day + DAYS_AHEAD);
            for (int at = day; at <= bound; at++) {
                if (at > steadyDay && roll != null) {
                    open(roll, vessel, at, known);
                }
                PartView seen = partAt(part);
                if (seen != null && seen.bearsOn(at, safety) < valves.greatest()) {
                    return at;
                }
            }
            return NONE;
        }

        private int firstBelow(int setting, int day) {
            for (int i = 0; i < partCount && i < parts.length; i++) {
                if (parts[i].bearsOn(day, safety) < setting) {
                    return i;
                }
            }
            return NONE;
        }

        private int reasonOfTubes() {
            int all = tubes();
            int shut = pluggedTubes();
            long passing = valves.passTogether();
            boolean tooLittle = all == 0 ? passing < makes : passing * all < (long) makes * (all - shut);
            if (tooLittle) {
                return 9;
            }
            return 10 * shut > all ? 10 : 0;
        }

        private int tubes() {
            int sum = 0;
            for (int i = 0; i < partCount && i < parts.length; i++) {
                sum += parts[i].tubes();
            }
            return sum;
        }

        private int pluggedTubes() {
            int sum = 0;
            for (int i = 0; i < partCount && i < parts.length; i++) {
                sum += parts[i].pluggedTubes();
            }
            return sum;
        }
    }

    /** What was listed latest, in order: each as one number that sorts by due day, vessel, kind. */
    private static final class Listing {
        private static final int MOST = MOST_VESSELS * DUE_KINDS;

        private final Row keys = new Row(MOST);
        private int listedOn = 0;

        void begin(int today) {
            keys.cut(0);
            listedOn = today;
        }

        int size() {
            return keys.size();
        }

        void insert(int day, int vessel, int kind) {
            int key = day * MOST + vessel * DUE_KINDS + kind;
            int at = keys.size();
            keys.add(key);
            while (at > 0 && keys.at(at - 1) > key) {
                keys.put(at, keys.at(at - 1));
                at--;
            }
            keys.put(at, key);
        }

        int number(int i, int what) {
            if (i < 0 || i >= keys.size()) {
                return NONE;
            }
            int key = keys.at(i);
            switch (what) {
                case 0:
                    return key % MOST / DUE_KINDS;
                case 1:
                    return key % DUE_KINDS;
                case 2:
                    return key / MOST;
                case 3:
                    return key / MOST < listedOn ? 1 : 0;
                default:
                    return NONE;
            }
        }
    }
}
