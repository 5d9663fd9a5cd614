import java.util.Arrays;

/** Roads with opening hours for travellers who cannot go back in time. */
public final class GateRoads {
    public static final int NO_SUCH = -1, BAD_VALUE = -2, BAD_TEXT = -3, TOO_MANY = -4, REFUSED = -5, NONE = -6;

    private static final int PLACES = 8, ROADS = 24, SPANS = 3, CLOSURES = 20, TRAVELLERS = 10;
    private static final int DAY = 1440, LAST = 2880, LONGEST_ROAD = 600, LONGEST_WAIT = 1000;
    private static final int HISTORY = 6, SLOTS = 2, PAD = 80;

    // The columns of the rows in a State; they are the numbers that ofPlace() and its like give them.
    private static final int ROOM_FROM = 0, ROOM_TO = 1, ROOM_LIMIT = 2, ROOM_ROW = 3;
    private static final int ROAD_FROM = 0, ROAD_TO = 1, ROAD_MINUTES = 2, ROAD_STRICT = 3, ROAD_SPANS = 4;
    private static final int ROAD_FIRST_SPAN = 5, ROAD_ROW = 11, ROAD_CLOSURES = 11, ROAD_ENTERED = 12;
    private static final int CLOSED_ROAD = 0, CLOSED_FROM = 1, CLOSED_TO = 2, CLOSURE_ROW = 3;
    private static final int AT = 0, TIME = 1, CAME = 2, ENTERED = 3, WAITED = 4, ON_ROADS = 5;
    private static final int BEGAN_AT = 6, BEGAN_TIME = 7, TRAVELLER_ROW = 8;

    private static final int LEADS_ELSEWHERE = 1, NO_SPAN = 2, SPAN_ENDS = 3, CLOSED = 4, TOO_LATE = 5;
    private static final int ROOM_SHUT = 6, TOO_LONG = 7;

    // A ring by time keeps what lies less than 1024 minutes apart: no road and no wait takes longer.
    private static final int RING = 1024, RING_MASK = RING - 1;

    private final State now = new State();
    private final State[] history = new State[HISTORY];
    private int changes;
    private final State[] slots = new State[SLOTS];
    private final boolean[] saved = new boolean[SLOTS];
    private int reason;
    private final Pad pad = new Pad();
    private boolean carrying;
    private final Gates gates = new Gates();
    private final Onward onward = new Onward();
    private final Onward otherOnward = new Onward();
    private final Backward backward = new Backward();
    private final Fewest fewest = new Fewest();

    public GateRoads() {
        for (int i = 0; i < HISTORY; i++) {
            history[i] = new State();
        }
        for (int i = 0; i < SLOTS; i++) {
            slots[i] = new State();
        }
    }

    // ---- setting up

    public int room(int place, int from, int to, int limit) {
        if (!isPlace(place)) {
            return NO_SUCH;
        }
        if (!within(from, 0, DAY) || !within(to, from, DAY) || !within(limit, 0, LONGEST_WAIT)) {
            return BAD_VALUE;
        }
        remember();
        int row = place * ROOM_ROW;
        int previous = now.rooms[row + ROOM_LIMIT];
        now.rooms[row + ROOM_FROM] = from;
        now.rooms[row + ROOM_TO] = to;
        now.rooms[row + ROOM_LIMIT] = limit;
        return previous;
    }

    public int road(int from, int to, int minutes) {
        if (!isPlace(from) || !isPlace(to) || from == to) {
            return NO_SUCH;
        }
        if (!within(minutes, 1, LONGEST_ROAD)) {
            return BAD_VALUE;
        }
        if (now.roadCount >= ROADS) {
            return TOO_MANY;
        }
        remember();
        return now.addRoad(from, to, minutes);
    }

    public int open(int road, int from, int to, int strict) {
        if (!now.hasRoad(road)) {
            return NO_SUCH;
        }
        if (!isSpan(from, to, DAY) || !within(strict, 0, 1)) {
            return BAD_VALUE;
        }
        remember();
        int before = now.ofRoads(road, ROAD_SPANS);
        now.dropSpans(road, strict);
        now.addSpan(road, from, to);
        return before;
    }

    public int more(int road, int from, int to) {
        if (!now.hasRoad(road)) {
            return NO_SUCH;
        }
        if (!isSpan(from, to, DAY) || now.meetsSpan(road, from, to)) {
            return BAD_VALUE;
        }
        if (now.ofRoads(road, ROAD_SPANS) >= SPANS) {
            return TOO_MANY;
        }
        remember();
        now.addSpan(road, from, to);
        return now.ofRoads(road, ROAD_SPANS);
    }

    public int close(int road, int from, int to) {
        if (!now.hasRoad(road)) {
            return NO_SUCH;
        }
        if (!isSpan(from, to, LAST)) {
            return BAD_VALUE;
        }
        if (now.closureCount >= CLOSURES) {
            return TOO_MANY;
        }
        remember();
        return now.addClosure(road, from, to);
    }

    public int lift(int closure) {
        if (!now.hasClosure(closure)) {
            return NO_SUCH;
        }
        remember();
        now.dropClosure(closure);
        return now.closureCount;
    }

    // ---- travellers

    public int traveller(int place, int time) {
        if (!isPlace(place)) {
            return NO_SUCH;
        }
        if (!within(time, 0, LAST)) {
            return BAD_VALUE;
        }
        if (now.travellerCount >= TRAVELLERS) {
            return TOO_MANY;
        }
        remember();
        return now.addTraveller(place, time);
    }

    public int go(int traveller, int road) {
        if (!now.hasTraveller(traveller) || !now.hasRoad(road)) {
            return NO_SUCH;
        }
        int why = now.whyNoGoing(traveller, road);
        if (why != 0) {
            return refuse(why);
        }
        remember();
        return now.enter(traveller, road);
    }

    public int stay(int traveller, int minutes) {
        if (!now.hasTraveller(traveller)) {
            return NO_SUCH;
        }
        if (!within(minutes, 1, LONGEST_WAIT)) {
            return BAD_VALUE;
        }
        int why = now.whyNoStaying(traveller, minutes);
        if (why != 0) {
            return refuse(why);
        }
        remember();
        return now.waitThere(traveller, minutes);
    }

    // ---- what there is

    public int ofPlace(int place, int what) {
        if (!isPlace(place)) {
            return NO_SUCH;
        }
        if (!within(what, 0, 5)) {
            return BAD_VALUE;
        }
        if (what == 3) {
            return now.roadsWith(ROAD_FROM, place);
        }
        if (what == 4) {
            return now.roadsWith(ROAD_TO, place);
        }
        if (what == 5) {
            return now.travellersAt(place);
        }
        return now.ofRooms(place, what);
    }

    public int ofRoad(int road, int what) {
        if (!now.hasRoad(road)) {
            return NO_SUCH;
        }
        if (!within(what, 0, ROAD_ENTERED)) {
            return BAD_VALUE;
        }
        if (what == ROAD_CLOSURES) {
            return now.closuresOf(road);
        }
        if (what == ROAD_ENTERED) {
            return now.entered[road];
        }
        return now.ofRoads(road, what);
    }

    public int ofClosure(int closure, int what) {
        if (!now.hasClosure(closure)) {
            return NO_SUCH;
        }
        if (!within(what, 0, CLOSURE_ROW - 1)) {
            return BAD_VALUE;
        }
        return now.ofClosures(closure, what);
    }

    public int ofTraveller(int traveller, int what) {
        if (!now.hasTraveller(traveller)) {
            return NO_SUCH;
        }
        if (!within(what, 0, TRAVELLER_ROW - 1)) {
            return BAD_VALUE;
        }
        return now.ofTravellers(traveller, what);
    }

    public int count(int what) {
        switch (what) {
            case 0:
                return now.roadCount;
            case 1:
                return now.closureCount;
            case 2:
                return now.travellerCount;
            case 3:
                return reason;
            case 4:
                return pad.length;
            case 5:
                return changes;
            default:
                return BAD_VALUE;
        }
    }

    public int whyShut(int road, int time) {
        if (!now.hasRoad(road)) {
            return NO_SUCH;
        }
        if (!within(time, 0, LAST)) {
            return BAD_VALUE;
        }
        return now.whyNoEntry(road, time);
    }

    // ---- ways; nothing changes

    public int earliest(int from, int to, int time) {
        if (!isPlace(from) || !isPlace(to)) {
            return NO_SUCH;
        }
        if (!within(time, 0, LAST)) {
            return BAD_VALUE;
        }
        return earliestTime(from, to, time);
    }

    public int latest(int from, int to, int by) {
        if (!isPlace(from) || !isPlace(to)) {
            return NO_SUCH;
        }
        if (!within(by, 0, LAST)) {
            return BAD_VALUE;
        }
        if (from == to) {
            return by;
        }
        gates.prepare(now);
        backward.start(to, by);
        for (int time = by; time >= 0; time--) {
            backward.minute(now, gates.at(time), time);
            if (backward.leads(from, time)) {
                return time;
            }
        }
        return NONE;
    }

    public int way(int from, int to, int time, int what) {
        if (!isPlace(from) || !isPlace(to)) {
            return NO_SUCH;
        }
        if (!within(time, 0, LAST) || !within(what, 0, 3)) {
            return BAD_VALUE;
        }
        if (from == to) {
            return what == 0 ? 0 : NONE;
        }
        int end = earliestTime(from, to, time);
        if (end == NONE) {
            return NONE;
        }
        if (what == 0) {
            return fewestRoads(from, to, time, end);
        }
        lookBack(to, time, end);
        int road = firstRoad(from, time);
        if (what == 1 || road == NONE) {
            return road;
        }
        return what == 2 ? firstEntry(road, time) : lastEntry(road, time);
    }

    public int reach(int from, int time, int by) {
        if (!isPlace(from)) {
            return NO_SUCH;
        }
        if (!within(time, 0, LAST) || !within(by, 0, LAST)) {
            return BAD_VALUE;
        }
        if (by < time) {
            return 0;
        }
        gates.prepare(now);
        onward.start(from, now.waitEnd(from, time));
        int reached = 1 << from;
        for (int minute = time; minute <= by; minute++) {
            reached |= onward.comersAt(minute);
            onward.minute(now, gates.at(minute), minute);
        }
        return reached;
    }

    public int needed(int from, int to, int time) {
        if (!isPlace(from) || !isPlace(to)) {
            return NO_SUCH;
        }
        if (!within(time, 0, LAST)) {
            return BAD_VALUE;
        }
        if (from == to) {
            return 0;
        }
        int end = earliestTime(from, to, time);
        if (end == NONE) {
            return 0;
        }
        lookBack(to, time, end);
        // A road that every earliest way enters is one of this one's, so no other need be tried.
        int tried = roadsOfOneWay(from, to, time);
        int stay = now.waitEnd(from, time);
        int found = 0;
        for (int road = 0; road < now.roadCount; road++) {
            if (has(tried, road) && firstComing(from, time, stay, to, end, 1 << road) == NONE) {
                found |= 1 << road;
            }
        }
        return found;
    }

    public int meet(int traveller, int other, int what) {
        if (!now.hasTraveller(traveller) || !now.hasTraveller(other)) {
            return NO_SUCH;
        }
        if (!within(what, 0, 1)) {
            return BAD_VALUE;
        }
        gates.prepare(now);
        int begin = now.ofTravellers(traveller, TIME);
        int otherBegin = now.ofTravellers(other, TIME);
        onward.start(now.ofTravellers(traveller, AT), begin + now.stayLeft(traveller));
        otherOnward.start(now.ofTravellers(other, AT), otherBegin + now.stayLeft(other));
        for (int time = Math.min(begin, otherBegin); time <= LAST; time++) {
            int usable = gates.at(time);
            int here = time < begin ? 0 : onward.minute(now, usable, time);
            int otherHere = time < otherBegin ? 0 : otherOnward.minute(now, usable, time);
            if ((here & otherHere) != 0) {
                return what == 0 ? time : lowest(here & otherHere);
            }
        }
        return NONE;
    }

    public int arrives(int traveller, int place) {
        if (!now.hasTraveller(traveller) || !isPlace(place)) {
            return NO_SUCH;
        }
        int from = now.ofTravellers(traveller, AT);
        int time = now.ofTravellers(traveller, TIME);
        if (from == place) {
            return time;
        }
        return firstComing(from, time, time + now.stayLeft(traveller), place, LAST, 0);
    }

    public int canStay(int traveller) {
        return now.hasTraveller(traveller) ? now.stayLeft(traveller) : NO_SUCH;
    }

    // ---- texts

    public int put(long characters) {
        int given = charactersIn(characters);
        if (given == 0) {
            return BAD_VALUE;
        }
        if (pad.length + given > PAD) {
            return TOO_MANY;
        }
        for (int i = given - 1; i >= 0; i--) {
            pad.append((char) (characters >>> (8 * i) & 255));
        }
        return pad.length;
    }

    public int wipe() {
        int before = pad.length;
        pad.length = 0;
        return before;
    }

    public int fault() {
        return pad.firstWrong();
    }

    public int carryOut() {
        if (pad.firstWrong() != NONE) {
            return BAD_TEXT;
        }
        remember();
        carrying = true;
        pad.rewind();
        int done = 0;
        boolean on = true;
        for (int orders = 0; orders < PAD && on; orders++) {
            pad.readOrder();
            on = carryOrder() >= 0;
            if (on) {
                done++;
                on = pad.take(';');
            }
        }
        carrying = false;
        pad.length = 0;
        return done;
    }

    // ---- undo, saving

    public int undo() {
        if (changes <= 0) {
            return NONE;
        }
        changes--;
        now.copyFrom(history[changes]);
        gates.ready = false;
        return changes;
    }

    public int save(int slot) {
        if (!within(slot, 0, SLOTS - 1)) {
            return NO_SUCH;
        }
        slots[slot].copyFrom(now);
        saved[slot] = true;
        return now.roadCount;
    }

    public int restore(int slot) {
        if (!within(slot, 0, SLOTS - 1) || !saved[slot]) {
            return NO_SUCH;
        }
        remember();
        now.copyFrom(slots[slot]);
        return now.roadCount;
    }

    // ---- what the methods above share

    private static boolean within(int value, int low, int high) {
        return value >= low && value <= high;
    }

    private static boolean isPlace(int place) {
        return within(place, 0, PLACES - 1);
    }

    private static boolean isSpan(int from, int to, int end) {
        return within(from, 0, end - 1) && within(to, from + 1, end);
    }

    private static boolean has(int set, int member) {
        return (set >>> member & 1) != 0;
    }

    private static int lowest(int set) {
        return Integer.bitCount((set & -set) - 1);
    }

    /** Every change calls this just ahead of what it does, so that the gates are made anew after it. */
    private void remember() {
        gates.ready = false;
        if (carrying) {
            return;
        }
        if (changes >= HISTORY) {
            State oldest = history[0];
            for (int i = 1; i < HISTORY; i++) {
                history[i - 1] = history[i];
            }
            history[HISTORY - 1] = oldest;
            changes = HISTORY - 1;
        }
        history[changes].copyFrom(now);
        changes++;
    }

    private int refuse(int why) {
        reason = why;
        return REFUSED;
    }

    private int earliestTime(int from, int to, int time) {
        return from == to ? time : firstComing(from, time, now.waitEnd(from, time), to, LAST, 0);
    }

    /** The time at which one who can stay until then comes to another place, NONE if not by the last minute. */
    private int firstComing(int from, int time, int stay, int to, int last, int without) {
        gates.prepare(now);
        onward.start(from, stay);
        for (int minute = time; minute <= last; minute++) {
            if (has(onward.comersAt(minute), to)) {
                return minute;
            }
            onward.minute(now, gates.at(minute) & ~without, minute);
        }
        return NONE;
    }

    private int fewestRoads(int from, int to, int time, int end) {
        fewest.start(from, now.waitEnd(from, time));
        for (int minute = time; minute < end; minute++) {
            fewest.minute(now, gates.at(minute), minute);
        }
        return fewest.comingTo(to, end);
    }

    private void lookBack(int to, int time, int by) {
        gates.prepare(now);
        backward.start(to, by);
        for (int minute = by; minute >= time; minute--) {
            backward.minute(now, gates.at(minute), minute);
        }
    }

    /** Whether the road, entered at the time, leads on as lookBack() asked. */
    private boolean leadsOn(int road, int time) {
        return has(gates.at(time), road)
            && backward.leads(now.ofRoads(road, ROAD_TO), time + now.ofRoads(road, ROAD_MINUTES));
    }

    private int firstRoad(int from, int time) {
        for (int road = 0; road < now.roadCount; road++) {
            if (now.ofRoads(road, ROAD_FROM) == from && firstEntry(road, time) != NONE) {
                return road;
            }
        }
        return NONE;
    }

    /** The earliest entry that leads on, of one who comes at the time to where the road begins. */
    private int firstEntry(int road, int time) {
        int end = now.waitEnd(now.ofRoads(road, ROAD_FROM), time);
        for (int minute = time; minute <= end; minute++) {
            if (leadsOn(road, minute)) {
                return minute;
            }
        }
        return NONE;
    }

    private int lastEntry(int road, int time) {
        int end = now.waitEnd(now.ofRoads(road, ROAD_FROM), time);
        for (int minute = end; minute >= time; minute--) {
            if (leadsOn(road, minute)) {
                return minute;
            }
        }
        return NONE;
    }

    /** The roads of one of the ways that lookBack() asked for. */
    private int roadsOfOneWay(int from, int to, int time) {
        int place = from;
        int set = 0;
        for (int minute = time; minute <= LAST && place != to; minute++) {
            int road = roadLeadingOn(place, minute);
            if (road != NONE) {
                set |= 1 << road;
                place = now.ofRoads(road, ROAD_TO);
                // The loop's own step adds the last of the road's minutes.
                minute += now.ofRoads(road, ROAD_MINUTES) - 1;
            }
        }
        return set;
    }

    private int roadLeadingOn(int place, int time) {
        for (int road = 0; road < now.roadCount; road++) {
            if (now.ofRoads(road, ROAD_FROM) == place && leadsOn(road, time)) {
                return road;
            }
        }
        return NONE;
    }

    /** How many characters the number gives, 0 if it gives none or is wrong. */
    private static int charactersIn(long characters) {
        for (int i = 0; i < 8; i++) {
            long rest = characters >>> (8 * i);
            if (rest == 0) {
                return i;
            }
            long code = rest & 255;
            if (code < 33 || code > 126) {
                return 0;
            }
        }
        return 8;
    }

    private int carryOrder() {
        int[] numbers = pad.numbers;
        switch (pad.kind) {
            case 's':
                return tellSpans(numbers[0]);
            case 'x':
                return close(numbers[0], numbers[1], numbers[2]);
            case 'g':
                return go(numbers[0], numbers[1]);
            case 'w':
                return stay(numbers[0], numbers[1]);
            default:
                return BAD_TEXT;
        }
    }

    private int tellSpans(int road) {
        if (!now.hasRoad(road)) {
            return NO_SUCH;
        }
        if (!pad.spansStandApart()) {
            return BAD_VALUE;
        }
        now.dropSpans(road, pad.strict);
        for (int i = 0; i < pad.spans; i++) {
            now.addSpan(road, pad.spanFrom(i), pad.spanTo(i));
        }
        return 0;
    }

    /** All that undo() and the slots give back. */
    private static final class State {
        final int[] rooms = new int[PLACES * ROOM_ROW];
        final int[] roads = new int[ROADS * ROAD_ROW];
        final int[] entered = new int[ROADS];
        final int[] closures = new int[CLOSURES * CLOSURE_ROW];
        final int[] travellers = new int[TRAVELLERS * TRAVELLER_ROW];
        int roadCount;
        int closureCount;
        int travellerCount;

        State() {
            for (int place = 0; place < PLACES; place++) {
                rooms[place * ROOM_ROW + ROOM_TO] = DAY;
                rooms[place * ROOM_ROW + ROOM_LIMIT] = LONGEST_WAIT;
            }
        }

        void copyFrom(State other) {
            System.arraycopy(other.rooms, 0, rooms, 0, rooms.length);
            System.arraycopy(other.roads, 0, roads, 0, roads.length);
            System.arraycopy(other.entered, 0, entered, 0, entered.length);
            System.arraycopy(other.closures, 0, closures, 0, closures.length);
            System.arraycopy(other.travellers, 0, travellers, 0, travellers.length);
            roadCount = other.roadCount;
            closureCount = other.closureCount;
            travellerCount = other.travellerCount;
        }

        boolean hasRoad(int road) {
            return road >= 0 && road < roadCount;
        }

        boolean hasClosure(int closure) {
            return closure >= 0 && closure < closureCount;
        }

        boolean hasTraveller(int traveller) {
            return traveller >= 0 && traveller < travellerCount;
        }

        int ofRooms(int place, int column) {
            return rooms[place * ROOM_ROW + column];
        }

        int ofRoads(int road, int column) {
            return roads[road * ROAD_ROW + column];
        }

        int ofClosures(int closure, int column) {
            return closures[closure * CLOSURE_ROW + column];
        }

        int ofTravellers(int traveller, int column) {
            return travellers[traveller * TRAVELLER_ROW + column];
        }

        int addRoad(int from, int to, int minutes) {
            int road = roadCount;
            int row = road * ROAD_ROW;
            roads[row + ROAD_FROM] = from;
            roads[row + ROAD_TO] = to;
            roads[row + ROAD_MINUTES] = minutes;
            entered[road] = 0;
            roadCount++;
            dropSpans(road, 0);
            addSpan(road, 0, DAY);
            return road;
        }

        void dropSpans(int road, int strict) {
            int row = road * ROAD_ROW;
            roads[row + ROAD_STRICT] = strict;
            roads[row + ROAD_SPANS] = 0;
            Arrays.fill(roads, row + ROAD_FIRST_SPAN, row + ROAD_ROW, NONE);
        }

        int spanFrom(int road, int span) {
            return roads[road * ROAD_ROW + ROAD_FIRST_SPAN + 2 * span];
        }

        int spanTo(int road, int span) {
            return roads[road * ROAD_ROW + ROAD_FIRST_SPAN + 2 * span + 1];
        }

        boolean meetsSpan(int road, int from, int to) {
            int spans = ofRoads(road, ROAD_SPANS);
            for (int span = 0; span < spans; span++) {
                if (from < spanTo(road, span) && spanFrom(road, span) < to) {
                    return true;
                }
            }
            return false;
        }

        /** Puts the span where it lies in the day; the caller has seen that there is room for it. */
        void addSpan(int road, int from, int to) {
            int spans = ofRoads(road, ROAD_SPANS);
            if (spans >= SPANS) {
                return;
            }
            int cells = road * ROAD_ROW + ROAD_FIRST_SPAN;
            int place = spans;
            for (; place > 0 && spanFrom(road, place - 1) > from; place--) {
                roads[cells + 2 * place] = spanFrom(road, place - 1);
                roads[cells + 2 * place + 1] = spanTo(road, place - 1);
            }
            roads[cells + 2 * place] = from;
            roads[cells + 2 * place + 1] = to;
            roads[road * ROAD_ROW + ROAD_SPANS] = spans + 1;
        }

        int addClosure(int road, int from, int to) {
            int row = closureCount * CLOSURE_ROW;
            closures[row + CLOSED_ROAD] = road;
            closures[row + CLOSED_FROM] = from;
            closures[row + CLOSED_TO] = to;
            closureCount++;
            return closureCount - 1;
        }

        void dropClosure(int closure) {
            int after = (closure + 1) * CLOSURE_ROW;
            System.arraycopy(closures, after, closures, after - CLOSURE_ROW, closureCount * CLOSURE_ROW - after);
            closureCount--;
        }

        int addTraveller(int place, int time) {
            int row = travellerCount * TRAVELLER_ROW;
            Arrays.fill(travellers, row, row + TRAVELLER_ROW, 0);
            travellers[row + AT] = place;
            travellers[row + TIME] = time;
            travellers[row + CAME] = time;
            travellers[row + BEGAN_AT] = place;
            travellers[row + BEGAN_TIME] = time;
            travellerCount++;
            return travellerCount - 1;
        }

        int enter(int traveller, int road) {
            int row = traveller * TRAVELLER_ROW;
            int minutes = ofRoads(road, ROAD_MINUTES);
            int time = travellers[row + TIME] + minutes;
            travellers[row + AT] = ofRoads(road, ROAD_TO);
            travellers[row + TIME] = time;
            travellers[row + CAME] = time;
            travellers[row + ENTERED]++;
            travellers[row + ON_ROADS] += minutes;
            entered[road]++;
            return time;
        }

        int waitThere(int traveller, int minutes) {
            int row = traveller * TRAVELLER_ROW;
            travellers[row + TIME] += minutes;
            travellers[row + WAITED] += minutes;
            return travellers[row + TIME];
        }

        int roadsWith(int column, int place) {
            int set = 0;
            for (int road = 0; road < roadCount; road++) {
                if (ofRoads(road, column) == place) {
                    set |= 1 << road;
                }
            }
            return set;
        }

        int travellersAt(int place) {
            int set = 0;
            for (int traveller = 0; traveller < travellerCount; traveller++) {
                if (ofTravellers(traveller, AT) == place) {
                    set |= 1 << traveller;
                }
            }
            return set;
        }

        int closuresOf(int road) {
            int number = 0;
            for (int closure = 0; closure < closureCount; closure++) {
                if (ofClosures(closure, CLOSED_ROAD) == road) {
                    number++;
                }
            }
            return number;
        }

        /** The time at which the waiting room, open at the time, shuts; the time itself if it is not open. */
        int openUntil(int place, int time) {
            int from = ofRooms(place, ROOM_FROM);
            int to = ofRooms(place, ROOM_TO);
            if (from == 0 && to == DAY) {
                // It opens again just as it shuts, so that it never does.
                return LAST;
            }
            int minute = time % DAY;
            return minute >= from && minute < to ? time - minute + to : time;
        }

        /** Until when one who comes to the place just then can be there. */
        int waitEnd(int place, int time) {
            int end = Math.min(openUntil(place, time), time + ofRooms(place, ROOM_LIMIT));
            return Math.min(end, LAST);
        }

        int stayLeft(int traveller) {
            int place = ofTravellers(traveller, AT);
            int time = ofTravellers(traveller, TIME);
            int limitEnd = ofTravellers(traveller, CAME) + ofRooms(place, ROOM_LIMIT);
            int end = Math.min(Math.min(openUntil(place, time), limitEnd), LAST);
            return Math.max(end - time, 0);
        }

        int whyNoGoing(int traveller, int road) {
            if (ofRoads(road, ROAD_FROM) != ofTravellers(traveller, AT)) {
                return LEADS_ELSEWHERE;
            }
            return whyNoEntry(road, ofTravellers(traveller, TIME));
        }

        int whyNoStaying(int traveller, int minutes) {
            int place = ofTravellers(traveller, AT);
            int end = ofTravellers(traveller, TIME) + minutes;
            if (end > LAST) {
                return TOO_LATE;
            }
            if (end > openUntil(place, ofTravellers(traveller, TIME))) {
                return ROOM_SHUT;
            }
            return end - ofTravellers(traveller, CAME) > ofRooms(place, ROOM_LIMIT) ? TOO_LONG : 0;
        }

        int whyNoEntry(int road, int time) {
            int minute = time % DAY;
            int end = spanEnd(road, minute);
            if (end == NONE) {
                return NO_SPAN;
            }
            int minutes = ofRoads(road, ROAD_MINUTES);
            if (ofRoads(road, ROAD_STRICT) != 0 && minute + minutes > end) {
                return SPAN_ENDS;
            }
            if (closedAt(road, time)) {
                return CLOSED;
            }
            return time + minutes > LAST ? TOO_LATE : 0;
        }

        int spanEnd(int road, int minute) {
            int spans = ofRoads(road, ROAD_SPANS);
            for (int span = 0; span < spans; span++) {
                if (minute >= spanFrom(road, span) && minute < spanTo(road, span)) {
                    return spanTo(road, span);
                }
            }
            return NONE;
        }

        boolean closedAt(int road, int time) {
            for (int closure = 0; closure < closureCount; closure++) {
                if (ofClosures(closure, CLOSED_ROAD) == road && time >= ofClosures(closure, CLOSED_FROM)
                        && time < ofClosures(closure, CLOSED_TO)) {
                    return true;
                }
            }
            return false;
        }
    }

    /** The roads that can be entered, minute by minute, so that no search asks for each road again. */
    private static final class Gates {
        private final int[] roadsAt = new int[LAST + 1];
        boolean ready;

        int at(int time) {
            return time >= 0 && time <= LAST ? roadsAt[time] : 0;
        }

        void prepare(State state) {
            if (ready) {
                return;
            }
            Arrays.fill(roadsAt, 0);
            for (int road = 0; road < state.roadCount; road++) {
                int spans = state.ofRoads(road, ROAD_SPANS);
                for (int span = 0; span < spans; span++) {
                    letIn(state, road, span);
                }
            }
            for (int closure = 0; closure < state.closureCount; closure++) {
                shut(state, closure);
            }
            ready = true;
        }

        private void letIn(State state, int road, int span) {
            int minutes = state.ofRoads(road, ROAD_MINUTES);
            boolean strict = state.ofRoads(road, ROAD_STRICT) != 0;
            int last = state.spanTo(road, span) - (strict ? minutes : 1);
            for (int day = 0; day < LAST; day += DAY) {
                int end = Math.min(day + last, LAST - minutes);
                for (int time = day + state.spanFrom(road, span); time <= end; time++) {
                    roadsAt[time] |= 1 << road;
                }
            }
        }

        private void shut(State state, int closure) {
            int open = ~(1 << state.ofClosures(closure, CLOSED_ROAD));
            int end = state.ofClosures(closure, CLOSED_TO);
            for (int time = state.ofClosures(closure, CLOSED_FROM); time < end; time++) {
                roadsAt[time] &= open;
            }
        }
    }

    /**
     * Where one can be, minute by minute. The latest to come to a place can stay the longest,
     * so that of all who came the time until which one of them can stay is enough.
     */
    private static final class Onward {
        private final int[] comers = new int[RING];
        private final int[] until = new int[PLACES];

        void start(int place, int stay) {
            Arrays.fill(comers, 0);
            Arrays.fill(until, NONE);
            until[place] = stay;
        }

        /** The places to which one comes just then; to be asked ahead of that minute. */
        int comersAt(int time) {
            return comers[time & RING_MASK];
        }

        /** Goes on by a minute, and returns the places at which one can be in it. */
        int minute(State state, int usable, int time) {
            int here = 0;
            int coming = comers[time & RING_MASK];
            comers[time & RING_MASK] = 0;
            for (int place = 0; place < PLACES; place++) {
                if (has(coming, place)) {
                    until[place] = Math.max(until[place], state.waitEnd(place, time));
                }
                if (until[place] >= time) {
                    here |= 1 << place;
                }
            }
            if (here != 0 && usable != 0) {
                leave(state, usable, here, time);
            }
            return here;
        }

        private void leave(State state, int usable, int here, int time) {
            for (int road = 0; road < state.roadCount; road++) {
                if (has(usable, road) && has(here, state.ofRoads(road, ROAD_FROM))) {
                    int end = time + state.ofRoads(road, ROAD_MINUTES);
                    comers[end & RING_MASK] |= 1 << state.ofRoads(road, ROAD_TO);
                }
            }
        }
    }

    /** From where a place can be come to by a time, minute by minute back from it. */
    private static final class Backward {
        private final int[] leading = new int[LAST + 1];
        private final int[] nextEntry = new int[PLACES];
        private int goal;
        private int by;

        void start(int place, int time) {
            Arrays.fill(leading, 0);
            Arrays.fill(nextEntry, LAST + 1);
            goal = place;
            by = time;
        }

        /** Whether one who comes to the place just then can come to the goal. */
        boolean leads(int place, int time) {
            return time >= 0 && time <= by && has(leading[time], place);
        }

        void minute(State state, int usable, int time) {
            for (int road = 0; road < state.roadCount; road++) {
                if (has(usable, road)
                        && leads(state.ofRoads(road, ROAD_TO), time + state.ofRoads(road, ROAD_MINUTES))) {
                    nextEntry[state.ofRoads(road, ROAD_FROM)] = time;
                }
            }
            int set = 1 << goal;
            for (int place = 0; place < PLACES; place++) {
                if (nextEntry[place] <= state.waitEnd(place, time)) {
                    set |= 1 << place;
                }
            }
            leading[time] = set;
        }
    }

    /**
     * The fewest roads by which one comes to each place, minute by minute. Of those who are at a place
     * a queue keeps each one who comes by fewer roads than all who can stay longer; its first is the best.
     */
    private static final class Fewest {
        private static final int ENDS = 4096;

        private final int[] coming = new int[PLACES * RING];
        private final int[] queue = new int[PLACES * RING];
        private final int[] head = new int[PLACES];
        private final int[] tail = new int[PLACES];
        private final int[] best = new int[PLACES];

        void start(int place, int stay) {
            Arrays.fill(coming, 0);
            Arrays.fill(head, 0);
            Arrays.fill(tail, 0);
            push(place, 0, stay);
        }

        private static int cell(int place, int number) {
            return place * RING + (number & RING_MASK);
        }

        int comingTo(int place, int time) {
            return coming[cell(place, time)];
        }

        private void push(int place, int roads, int stay) {
            int last = tail[place];
            // Who comes later can stay longer, so one who came before by no fewer roads is of no use now.
            while (last > head[place] && queue[cell(place, last - 1)] / ENDS >= roads) {
                last--;
            }
            queue[cell(place, last)] = roads * ENDS + stay;
            tail[place] = last + 1;
        }

        void minute(State state, int usable, int time) {
            for (int place = 0; place < PLACES; place++) {
                int cell = cell(place, time);
                if (coming[cell] > 0) {
                    push(place, coming[cell], state.waitEnd(place, time));
                    coming[cell] = 0;
                }
                best[place] = bestAt(place, time);
            }
            for (int road = 0; road < state.roadCount; road++) {
                if (has(usable, road)) {
                    leave(state, road, time);
                }
            }
        }

        private int bestAt(int place, int time) {
            int first = head[place];
            while (first < tail[place] && queue[cell(place, first)] % ENDS < time) {
                first++;
            }
            head[place] = first;
            return first < tail[place] ? queue[cell(place, first)] / ENDS : NONE;
        }

        private void leave(State state, int road, int time) {
            int roads = best[state.ofRoads(road, ROAD_FROM)] + 1;
            if (roads <= 0) {
                return;
            }
            int cell = cell(state.ofRoads(road, ROAD_TO), time + state.ofRoads(road, ROAD_MINUTES));
            if (coming[cell] == 0 || coming[cell] > roads) {
                coming[cell] = roads;
            }
        }
    }

    /** The pad, and what reads its orders: the parts of the latest order stand in the fields. */
    private static final class Pad {
        private final char[] text = new char[PAD];
        int length;
        private int at;
        private boolean wrong;
        int kind;
        final int[] numbers = new int[SPANS];
        final int[] clocks = new int[2 * SPANS];
        int spans;
        int strict;

        void append(char character) {
            if (length < PAD) {
                text[length] = character;
                length++;
            }
        }

        void rewind() {
            at = 0;
            wrong = false;
        }

        /** The fault of the text. */
        int firstWrong() {
            rewind();
            boolean on = true;
            for (int orders = 0; orders < PAD && on; orders++) {
                readOrder();
                on = !wrong && at < length;
                if (on) {
                    expect(';');
                }
            }
            return wrong ? at : NONE;
        }

        private boolean stands(char character) {
            return !wrong && at < length && text[at] == character;
        }

        /** Reads the character, if it stands there. */
        boolean take(char character) {
            if (!stands(character)) {
                return false;
            }
            at++;
            return true;
        }

        private void expect(char character) {
            if (!take(character)) {
                wrong = true;
            }
        }

        private boolean digitStands(int most) {
            return !wrong && at < length && text[at] >= '0' && text[at] <= '0' + most;
        }

        private int readDigit(int most) {
            if (!digitStands(most)) {
                wrong = true;
                return 0;
            }
            at++;
            return text[at - 1] - '0';
        }

        private int readNumber() {
            int value = readDigit(9);
            for (int digits = 1; digits < 4 && value > 0 && digitStands(9); digits++) {
                int longer = value * 10 + text[at] - '0';
                if (longer > LAST) {
                    return value;
                }
                value = longer;
                at++;
            }
            return value;
        }

        private int readClock() {
            int tens = readDigit(2);
            int hours = tens * 10 + readDigit(tens == 2 ? 4 : 9);
            boolean midnight = hours * 60 == DAY;
            int minutes = readDigit(midnight ? 0 : 5) * 10;
            minutes += readDigit(midnight ? 0 : 9);
            return hours * 60 + minutes;
        }

        void readOrder() {
            kind = !wrong && at < length ? text[at] : ';';
            switch (kind) {
                case 's':
                    at++;
                    readSpans();
                    break;
                case 'x':
                    at++;
                    readClosure();
                    break;
                case 'g':
                    at++;
                    readDigitAndNumber('>');
                    break;
                case 'w':
                    at++;
                    readDigitAndNumber('+');
                    break;
                default:
                    wrong = true;
                    break;
            }
        }

        private void readSpans() {
            numbers[0] = readNumber();
            expect(':');
            spans = 0;
            boolean on = true;
            while (spans < SPANS && on) {
                clocks[2 * spans] = readClock();
                expect('-');
                clocks[2 * spans + 1] = readClock();
                spans++;
                on = spans < SPANS && take(',');
            }
            strict = take('!') ? 1 : 0;
        }

        private void readClosure() {
            numbers[0] = readNumber();
            expect(':');
            numbers[1] = readNumber();
            expect('-');
            numbers[2] = readNumber();
        }

        private void readDigitAndNumber(char between) {
            numbers[0] = readDigit(9);
            expect(between);
            numbers[1] = readNumber();
        }

        int spanFrom(int span) {
            return clocks[2 * span];
        }

        int spanTo(int span) {
            return clocks[2 * span + 1];
        }

        /** Whether each span ends behind its beginning, and no minute is in two of them. */
        boolean spansStandApart() {
            for (int span = 0; span < spans; span++) {
                if (spanFrom(span) >= spanTo(span)) {
                    return false;
                }
                for (int other = 0; other < span; other++) {
                    if (spanFrom(span) < spanTo(other) && spanFrom(other) < spanTo(span)) {
                        return false;
                    }
                }
            }
            return true;
        }
    }
}
