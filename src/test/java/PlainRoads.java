import java.util.ArrayDeque;
import java.util.ArrayList;
import java.util.List;
import java.util.regex.Matcher;
import java.util.regex.Pattern;

/**
 * The document told once more, as slowly and plainly as it can be, for RandomRunsTest to compare with:
 * searches go through each (place, time of coming) and each minute of waiting, one by one.
 */
final class PlainRoads {
    static final int NO_SUCH = -1, BAD_VALUE = -2, BAD_TEXT = -3, TOO_MANY = -4, REFUSED = -5, NONE = -6;

    static final class Room {
        int from, to = 1440, limit = 1000;
    }

    static final class Road {
        int from, to, minutes, entered;
        boolean strict;
        List<int[]> spans = new ArrayList<>(List.of(new int[] {0, 1440}));
    }

    static final class Traveller {
        int place, time, came, entered, waited, onRoads, beganAt, beganTime;
    }

    static final class State {
        Room[] rooms = new Room[8];
        List<Road> roads = new ArrayList<>();
        List<int[]> closures = new ArrayList<>();
        List<Traveller> travellers = new ArrayList<>();

        State() {
            for (int i = 0; i < 8; i++) {
                rooms[i] = new Room();
            }
        }

        State copy() {
            State c = new State();
            for (int i = 0; i < 8; i++) {
                c.rooms[i].from = rooms[i].from;
                c.rooms[i].to = rooms[i].to;
                c.rooms[i].limit = rooms[i].limit;
            }
            for (Road r : roads) {
                Road n = new Road();
                n.from = r.from;
                n.to = r.to;
                n.minutes = r.minutes;
                n.entered = r.entered;
                n.strict = r.strict;
                n.spans = new ArrayList<>();
                for (int[] s : r.spans) {
                    n.spans.add(s.clone());
                }
                c.roads.add(n);
            }
            for (int[] x : closures) {
                c.closures.add(x.clone());
            }
            for (Traveller t : travellers) {
                Traveller n = new Traveller();
                n.place = t.place;
                n.time = t.time;
                n.came = t.came;
                n.entered = t.entered;
                n.waited = t.waited;
                n.onRoads = t.onRoads;
                n.beganAt = t.beganAt;
                n.beganTime = t.beganTime;
                c.travellers.add(n);
            }
            return c;
        }
    }

    State s = new State();
    List<State> history = new ArrayList<>();
    State[] slots = new State[2];
    int reason;
    String pad = "";

    // what stands in "Terms"

    boolean roomOpen(int place, int minute) {
        int m = minute % 1440;
        return s.rooms[place].from <= m && m < s.rooms[place].to;
    }

    boolean canWait(int place, int came, int from, int to) {
        for (int m = from; m < to; m++) {
            if (!roomOpen(place, m)) {
                return false;
            }
        }
        return to <= 2880 && (to == from || to - came <= s.rooms[place].limit);
    }

    int why(Road road, int number, int time) {
        int m = time % 1440;
        boolean in = false;
        boolean fits = false;
        for (int[] span : road.spans) {
            if (span[0] <= m && m < span[1]) {
                in = true;
                fits = m + road.minutes <= span[1];
            }
        }
        if (!in) {
            return 2;
        }
        if (road.strict && !fits) {
            return 3;
        }
        for (int[] c : s.closures) {
            if (c[0] == number && c[1] <= time && time < c[2]) {
                return 4;
            }
        }
        return time + road.minutes > 2880 ? 5 : 0;
    }

    boolean place(int p) {
        return p >= 0 && p < 8;
    }

    boolean isRoad(int r) {
        return r >= 0 && r < s.roads.size();
    }

    boolean isTraveller(int t) {
        return t >= 0 && t < s.travellers.size();
    }

    void change() {
        history.add(s.copy());
        if (history.size() > 6) {
            history.remove(0);
        }
    }

    // setting up

    int room(int place, int from, int to, int limit) {
        if (!place(place)) {
            return NO_SUCH;
        }
        if (from < 0 || from > 1440 || to < from || to > 1440 || limit < 0 || limit > 1000) {
            return BAD_VALUE;
        }
        change();
        Room r = s.rooms[place];
        int old = r.limit;
        r.from = from;
        r.to = to;
        r.limit = limit;
        return old;
    }

    int road(int from, int to, int minutes) {
        if (!place(from) || !place(to) || from == to) {
            return NO_SUCH;
        }
        if (minutes < 1 || minutes > 600) {
            return BAD_VALUE;
        }
        if (s.roads.size() == 24) {
            return TOO_MANY;
        }
        change();
        Road r = new Road();
        r.from = from;
        r.to = to;
        r.minutes = minutes;
        s.roads.add(r);
        return s.roads.size() - 1;
    }

    int open(int road, int from, int to, int strict) {
        if (!isRoad(road)) {
            return NO_SUCH;
        }
        if (from < 0 || from > 1439 || to <= from || to > 1440 || (strict != 0 && strict != 1)) {
            return BAD_VALUE;
        }
        change();
        Road r = s.roads.get(road);
        int had = r.spans.size();
        r.spans.clear();
        r.spans.add(new int[] {from, to});
        r.strict = strict == 1;
        return had;
    }

    boolean share(int[] a, int[] b) {
        for (int m = 0; m < 1440; m++) {
            if (a[0] <= m && m < a[1] && b[0] <= m && m < b[1]) {
                return true;
            }
        }
        return false;
    }

    int more(int road, int from, int to) {
        if (!isRoad(road)) {
            return NO_SUCH;
        }
        if (from < 0 || from > 1439 || to <= from || to > 1440) {
            return BAD_VALUE;
        }
        for (int[] span : s.roads.get(road).spans) {
            if (share(span, new int[] {from, to})) {
                return BAD_VALUE;
            }
        }
        if (s.roads.get(road).spans.size() == 3) {
            return TOO_MANY;
        }
        change();
        Road r = s.roads.get(road);
        r.spans.add(new int[] {from, to});
        r.spans.sort((a, b) -> a[0] - b[0]);
        return r.spans.size();
    }

    int close(int road, int from, int to) {
        return close(road, from, to, true);
    }

    int close(int road, int from, int to, boolean recorded) {
        if (!isRoad(road)) {
            return NO_SUCH;
        }
        if (from < 0 || from > 2879 || to <= from || to > 2880) {
            return BAD_VALUE;
        }
        if (s.closures.size() == 20) {
            return TOO_MANY;
        }
        if (recorded) {
            change();
        }
        s.closures.add(new int[] {road, from, to});
        return s.closures.size() - 1;
    }

    int lift(int closure) {
        if (closure < 0 || closure >= s.closures.size()) {
            return NO_SUCH;
        }
        change();
        s.closures.remove(closure);
        return s.closures.size();
    }

    // travellers

    int traveller(int place, int time) {
        if (!place(place)) {
            return NO_SUCH;
        }
        if (time < 0 || time > 2880) {
            return BAD_VALUE;
        }
        if (s.travellers.size() == 10) {
            return TOO_MANY;
        }
        change();
        Traveller t = new Traveller();
        t.place = place;
        t.beganAt = place;
        t.time = time;
        t.came = time;
        t.beganTime = time;
        s.travellers.add(t);
        return s.travellers.size() - 1;
    }

    int go(int traveller, int road) {
        return go(traveller, road, true);
    }

    int go(int traveller, int road, boolean recorded) {
        if (!isTraveller(traveller) || !isRoad(road)) {
            return NO_SUCH;
        }
        Traveller t = s.travellers.get(traveller);
        Road r = s.roads.get(road);
        int why = r.from != t.place ? 1 : why(r, road, t.time);
        if (why != 0) {
            reason = why;
            return REFUSED;
        }
        if (recorded) {
            change();
        }
        t.place = r.to;
        t.time += r.minutes;
        t.came = t.time;
        t.entered++;
        t.onRoads += r.minutes;
        r.entered++;
        return t.time;
    }

    int stay(int traveller, int minutes) {
        return stay(traveller, minutes, true);
    }

    int stay(int traveller, int minutes, boolean recorded) {
        if (!isTraveller(traveller)) {
            return NO_SUCH;
        }
        if (minutes < 1 || minutes > 1000) {
            return BAD_VALUE;
        }
        Traveller t = s.travellers.get(traveller);
        int why = 0;
        if (t.time + minutes > 2880) {
            why = 5;
        } else {
            for (int m = t.time; m < t.time + minutes; m++) {
                if (!roomOpen(t.place, m)) {
                    why = 6;
                }
            }
            if (why == 0 && t.time + minutes - t.came > s.rooms[t.place].limit) {
                why = 7;
            }
        }
        if (why != 0) {
            reason = why;
            return REFUSED;
        }
        if (recorded) {
            change();
        }
        t.time += minutes;
        t.waited += minutes;
        return t.time;
    }

    // what there is

    int ofPlace(int place, int what) {
        if (!place(place)) {
            return NO_SUCH;
        }
        if (what < 0 || what > 5) {
            return BAD_VALUE;
        }
        int from = 0;
        int to = 0;
        int there = 0;
        for (int i = 0; i < s.roads.size(); i++) {
            from |= s.roads.get(i).from == place ? 1 << i : 0;
            to |= s.roads.get(i).to == place ? 1 << i : 0;
        }
        for (int i = 0; i < s.travellers.size(); i++) {
            there |= s.travellers.get(i).place == place ? 1 << i : 0;
        }
        Room r = s.rooms[place];
        return new int[] {r.from, r.to, r.limit, from, to, there}[what];
    }

    int ofRoad(int road, int what) {
        if (!isRoad(road)) {
            return NO_SUCH;
        }
        if (what < 0 || what > 12) {
            return BAD_VALUE;
        }
        Road r = s.roads.get(road);
        int closures = 0;
        for (int[] c : s.closures) {
            closures += c[0] == road ? 1 : 0;
        }
        int[] all = {r.from, r.to, r.minutes, r.strict ? 1 : 0, r.spans.size(), NONE, NONE, NONE, NONE, NONE, NONE,
            closures, r.entered};
        for (int i = 0; i < r.spans.size(); i++) {
            all[5 + 2 * i] = r.spans.get(i)[0];
            all[6 + 2 * i] = r.spans.get(i)[1];
        }
        return all[what];
    }

    int ofClosure(int closure, int what) {
        if (closure < 0 || closure >= s.closures.size()) {
            return NO_SUCH;
        }
        return what < 0 || what > 2 ? BAD_VALUE : s.closures.get(closure)[what];
    }

    int ofTraveller(int traveller, int what) {
        if (!isTraveller(traveller)) {
            return NO_SUCH;
        }
        if (what < 0 || what > 7) {
            return BAD_VALUE;
        }
        Traveller t = s.travellers.get(traveller);
        return new int[] {t.place, t.time, t.came, t.entered, t.waited, t.onRoads, t.beganAt, t.beganTime}[what];
    }

    int count(int what) {
        if (what < 0 || what > 5) {
            return BAD_VALUE;
        }
        return new int[] {s.roads.size(), s.closures.size(), s.travellers.size(), reason, pad.length(),
            history.size()}[what];
    }

    int whyShut(int road, int time) {
        if (!isRoad(road)) {
            return NO_SUCH;
        }
        return time < 0 || time > 2880 ? BAD_VALUE : why(s.roads.get(road), road, time);
    }

    // ways

    /** Until when one who came at a time, and is there at another one, can be there. */
    int stayEnd(int place, int came, int time) {
        int t = time;
        while (t < 2880 && roomOpen(place, t) && t + 1 - came <= s.rooms[place].limit) {
            t++;
        }
        return t;
    }

    /** By road and time, whether the road can be entered. */
    boolean[][] gates() {
        boolean[][] gates = new boolean[s.roads.size()][2881];
        for (int r = 0; r < s.roads.size(); r++) {
            for (int t = 0; t <= 2880; t++) {
                gates[r][t] = why(s.roads.get(r), r, t) == 0;
            }
        }
        return gates;
    }

    static final class Found {
        /** By place and time of coming: the fewest roads and 1, or 0. */
        int[][] comings = new int[8][2881];
        boolean[][] presence = new boolean[8][2881];

        int first(int place) {
            for (int t = 0; t <= 2880; t++) {
                if (comings[place][t] != 0) {
                    return t;
                }
            }
            return NONE;
        }
    }

    /** All that ways come to from a place at a time, having come there at another one. */
    Found search(boolean[][] gates, int place, int came, int time, int without) {
        Found f = new Found();
        ArrayDeque<int[]> queue = new ArrayDeque<>();
        f.comings[place][time] = 1;
        queue.add(new int[] {place, came, time});
        while (!queue.isEmpty()) {
            int[] q = queue.remove();
            int roads = f.comings[q[0]][q[2]];
            int end = stayEnd(q[0], q[1], q[2]);
            for (int t = q[2]; t <= end; t++) {
                if (!f.presence[q[0]][t]) {
                    f.presence[q[0]][t] = true;
                    leave(gates, f, queue, q[0], t, roads + 1, without);
                }
            }
        }
        return f;
    }

    private void leave(boolean[][] gates, Found f, ArrayDeque<int[]> queue, int place, int t, int roads, int without) {
        for (int r = 0; r < s.roads.size(); r++) {
            Road road = s.roads.get(r);
            if (road.from == place && r != without && gates[r][t] && f.comings[road.to][t + road.minutes] == 0) {
                int end = t + road.minutes;
                f.comings[road.to][end] = roads;
                queue.add(new int[] {road.to, end, end});
            }
        }
    }

    int earliest(int from, int to, int time) {
        if (!place(from) || !place(to)) {
            return NO_SUCH;
        }
        if (time < 0 || time > 2880) {
            return BAD_VALUE;
        }
        return from == to ? time : search(gates(), from, time, time, -1).first(to);
    }

    int latest(int from, int to, int by) {
        if (!place(from) || !place(to)) {
            return NO_SUCH;
        }
        if (by < 0 || by > 2880) {
            return BAD_VALUE;
        }
        if (from == to) {
            return by;
        }
        boolean[][] leads = backward(gates(), to, 0, by);
        for (int t = by; t >= 0; t--) {
            if (leads[from][t]) {
                return t;
            }
        }
        return NONE;
    }

    /** Whether one who comes to the place at the time has a way that comes to the goal in the span of times. */
    boolean[][] backward(boolean[][] gates, int to, int after, int by) {
        boolean[][] leads = new boolean[8][2881];
        boolean[][] entries = new boolean[8][2881];
        for (int t = by; t >= 0; t--) {
            for (int r = 0; r < s.roads.size(); r++) {
                Road road = s.roads.get(r);
                if (gates[r][t] && leads[road.to][t + road.minutes]) {
                    entries[road.from][t] = true;
                }
            }
            for (int p = 0; p < 8; p++) {
                leads[p][t] = p == to && t >= after || entered(entries[p], t, stayEnd(p, t, t));
            }
        }
        return leads;
    }

    boolean entered(boolean[] entries, int from, int to) {
        for (int t = from; t <= to; t++) {
            if (entries[t]) {
                return true;
            }
        }
        return false;
    }

    int way(int from, int to, int time, int what) {
        if (!place(from) || !place(to)) {
            return NO_SUCH;
        }
        if (time < 0 || time > 2880 || what < 0 || what > 3) {
            return BAD_VALUE;
        }
        if (from == to) {
            return what == 0 ? 0 : NONE;
        }
        boolean[][] gates = gates();
        Found f = search(gates, from, time, time, -1);
        int end = f.first(to);
        if (end == NONE) {
            return NONE;
        }
        if (what == 0) {
            return f.comings[to][end] - 1;
        }
        boolean[][] leads = backward(gates, to, end, end);
        for (int r = 0; r < s.roads.size(); r++) {
            Road road = s.roads.get(r);
            List<Integer> entries = new ArrayList<>();
            for (int t = time; road.from == from && t <= stayEnd(from, time, time); t++) {
                if (gates[r][t] && leads[road.to][t + road.minutes]) {
                    entries.add(t);
                }
            }
            if (!entries.isEmpty()) {
                return what == 1 ? r : what == 2 ? entries.get(0) : entries.get(entries.size() - 1);
            }
        }
        return NONE;
    }

    int reach(int from, int time, int by) {
        if (!place(from)) {
            return NO_SUCH;
        }
        if (time < 0 || time > 2880 || by < 0 || by > 2880) {
            return BAD_VALUE;
        }
        int set = 0;
        Found f = search(gates(), from, time, time, -1);
        for (int p = 0; p < 8; p++) {
            int first = f.first(p);
            set |= first != NONE && first <= by ? 1 << p : 0;
        }
        return set;
    }

    int needed(int from, int to, int time) {
        if (!place(from) || !place(to)) {
            return NO_SUCH;
        }
        if (time < 0 || time > 2880) {
            return BAD_VALUE;
        }
        boolean[][] gates = gates();
        int end = from == to ? NONE : search(gates, from, time, time, -1).first(to);
        if (end == NONE) {
            return 0;
        }
        int set = 0;
        for (int r = 0; r < s.roads.size(); r++) {
            set |= search(gates, from, time, time, r).first(to) != end ? 1 << r : 0;
        }
        return set;
    }

    int meet(int traveller, int other, int what) {
        if (!isTraveller(traveller) || !isTraveller(other)) {
            return NO_SUCH;
        }
        if (what != 0 && what != 1) {
            return BAD_VALUE;
        }
        Traveller a = s.travellers.get(traveller);
        Traveller b = s.travellers.get(other);
        boolean[][] gates = gates();
        boolean[][] one = search(gates, a.place, a.came, a.time, -1).presence;
        boolean[][] two = search(gates, b.place, b.came, b.time, -1).presence;
        for (int t = 0; t <= 2880; t++) {
            for (int p = 0; p < 8; p++) {
                if (one[p][t] && two[p][t]) {
                    return what == 0 ? t : p;
                }
            }
        }
        return NONE;
    }

    int arrives(int traveller, int place) {
        if (!isTraveller(traveller) || !place(place)) {
            return NO_SUCH;
        }
        Traveller t = s.travellers.get(traveller);
        return t.place == place ? t.time : search(gates(), t.place, t.came, t.time, -1).first(place);
    }

    int canStay(int traveller) {
        if (!isTraveller(traveller)) {
            return NO_SUCH;
        }
        Traveller t = s.travellers.get(traveller);
        int minutes = 0;
        while (canWait(t.place, t.came, t.time, t.time + minutes + 1)) {
            minutes++;
        }
        return minutes;
    }

    // texts

    int put(long characters) {
        StringBuilder text = new StringBuilder();
        boolean ended = false;
        for (int i = 0; i < 8; i++) {
            int code = (int) (characters >>> (8 * i) & 255);
            if (code == 0) {
                ended = true;
            } else if (ended || code < 33 || code > 126) {
                return BAD_VALUE;
            } else {
                text.insert(0, (char) code);
            }
        }
        if (text.length() == 0) {
            return BAD_VALUE;
        }
        if (pad.length() + text.length() > 80) {
            return TOO_MANY;
        }
        pad += text;
        return pad.length();
    }

    int wipe() {
        int length = pad.length();
        pad = "";
        return length;
    }

    static final String NUMBER = "(0|[1-9][0-9]{0,2}|1[0-9]{3}|2[0-7][0-9]{2}|28[0-7][0-9]|2880)";
    static final String CLOCK = "(([01][0-9]|2[0-3])[0-5][0-9]|2400)";
    static final String HOURS = CLOCK + "-" + CLOCK;
    static final String ORDER = "(s" + NUMBER + ":" + HOURS + "(," + HOURS + "){0,2}!?|x" + NUMBER + ":" + NUMBER + "-"
        + NUMBER + "|g[0-9]>" + NUMBER + "|w[0-9]\\+" + NUMBER + ")";
    static final Pattern TEXT = Pattern.compile(ORDER + "(;" + ORDER + ")*");

    int fault() {
        for (int i = 0; i < pad.length(); i++) {
            Matcher m = TEXT.matcher(pad.substring(0, i + 1));
            if (!m.matches() && !m.hitEnd()) {
                return i;
            }
        }
        return TEXT.matcher(pad).matches() ? NONE : pad.length();
    }

    int carryOut() {
        if (fault() != NONE) {
            return BAD_TEXT;
        }
        change();
        int done = 0;
        for (String order : pad.split(";")) {
            if (carry(order) < 0) {
                break;
            }
            done++;
        }
        pad = "";
        return done;
    }

    int carry(String order) {
        String[] n = order.substring(1).split("[:>+,!-]");
        int first = Integer.parseInt(n[0]);
        switch (order.charAt(0)) {
            case 'x':
                return close(first, Integer.parseInt(n[1]), Integer.parseInt(n[2]), false);
            case 'g':
                return go(first, Integer.parseInt(n[1]), false);
            case 'w':
                return stay(first, Integer.parseInt(n[1]), false);
            default:
                return spans(first, n, order.endsWith("!"));
        }
    }

    int clock(String digits) {
        return Integer.parseInt(digits.substring(0, 2)) * 60 + Integer.parseInt(digits.substring(2));
    }

    int spans(int road, String[] n, boolean strict) {
        if (!isRoad(road)) {
            return NO_SUCH;
        }
        List<int[]> spans = new ArrayList<>();
        for (int i = 1; i < n.length; i += 2) {
            int[] span = {clock(n[i]), clock(n[i + 1])};
            if (span[1] <= span[0]) {
                return BAD_VALUE;
            }
            for (int[] old : spans) {
                if (share(old, span)) {
                    return BAD_VALUE;
                }
            }
            spans.add(span);
        }
        spans.sort((a, b) -> a[0] - b[0]);
        s.roads.get(road).spans = spans;
        s.roads.get(road).strict = strict;
        return 0;
    }

    // undo, saving

    int undo() {
        if (history.isEmpty()) {
            return NONE;
        }
        s = history.remove(history.size() - 1);
        return history.size();
    }

    int save(int slot) {
        if (slot < 0 || slot > 1) {
            return NO_SUCH;
        }
        slots[slot] = s.copy();
        return s.roads.size();
    }

    int restore(int slot) {
        if (slot < 0 || slot > 1 || slots[slot] == null) {
            return NO_SUCH;
        }
        change();
        s = slots[slot].copy();
        return s.roads.size();
    }
}
