import java.util.ArrayList;
import java.util.List;
import java.util.Random;

/**
 * Promises 16 to 24 by the document's words alone: in worlds so narrow that each way can be written down,
 * all of them are, and what is asked about ways is read from them.
 */
final class EveryWayTest {
    private static final int NONE = -6;
    private static final int MOST_WAYS = 60000;

    /** A way that was gone: where and when it came, by how many roads, which ones, and how it began. */
    record Way(int place, int time, int roads, int set, int first, int firstEntry) {
    }

    private final Random random;
    private final GateRoads x = new GateRoads();
    private final StringBuilder run = new StringBuilder();
    private final int begin;
    private final int places;
    private final int[][] rooms;
    private final int[][] roads;
    private final List<List<int[]>> spans = new ArrayList<>();
    private final List<int[]> closures = new ArrayList<>();
    private final List<int[]> travellers = new ArrayList<>();
    private boolean same = true;

    private EveryWayTest(long seed) {
        random = new Random(seed);
        begin = new int[] {up(30), 1430 + up(8), 2862 + up(8), 700 + up(100)}[up(4)];
        places = 2 + up(3);
        rooms = new int[places][];
        roads = new int[2 + up(5)][];
        for (int place = 0; place < places; place++) {
            makeRoom(place);
        }
        for (int road = 0; road < roads.length; road++) {
            makeRoad(road);
        }
        for (int i = up(4); i > 0; i--) {
            int from = Math.min(begin + up(12), 2879);
            int[] closure = {up(roads.length), from, Math.min(from + 1 + up(4), 2880)};
            closures.add(closure);
            same("close", closure, x.close(closure[0], closure[1], closure[2]), closures.size() - 1);
        }
    }

    private int up(int bound) {
        return random.nextInt(bound);
    }

    private void same(String call, int[] arguments, int answer, int due) {
        run.append(call);
        for (int argument : arguments) {
            run.append(' ').append(argument);
        }
        run.append(" = ").append(answer).append('\n');
        if (answer != due) {
            same = false;
            run.append("  but due is ").append(due).append('\n');
        }
    }

    private void makeRoom(int place) {
        int from = up(2) == 0 ? 0 : (begin + up(8)) % 1440;
        int to = up(3) > 0 ? 1440 : Math.min(from + up(8), 1440);
        rooms[place] = new int[] {from, to, up(5)};
        same("room " + place, rooms[place], x.room(place, from, to, rooms[place][2]), 1000);
    }

    private void makeRoad(int road) {
        int from = up(places);
        int to = (from + 1 + up(places - 1)) % places;
        roads[road] = new int[] {from, to, 1 + up(5), up(2)};
        same("road", roads[road], x.road(from, to, roads[road][2]), road);
        List<int[]> list = new ArrayList<>();
        int[] span = span();
        list.add(span);
        same("open " + road, span, x.open(road, span[0], span[1], roads[road][3]), 1);
        for (int i = up(3); i > 0; i--) {
            int[] other = span();
            boolean apart = true;
            for (int[] old : list) {
                apart &= old[1] <= other[0] || other[1] <= old[0];
            }
            if (apart) {
                list.add(other);
            }
            same("more " + road, other, x.more(road, other[0], other[1]), apart ? list.size() : -2);
        }
        spans.add(list);
    }

    private int[] span() {
        int from = (begin + up(14)) % 1440;
        return new int[] {from, Math.min(from + 1 + up(6), 1440)};
    }

    /** The reason why a road cannot be entered at a time, 0 if it can. */
    private int why(int road, int time) {
        int[] in = null;
        for (int[] span : spans.get(road)) {
            if (span[0] <= time % 1440 && time % 1440 < span[1]) {
                in = span;
            }
        }
        if (in == null) {
            return 2;
        }
        if (roads[road][3] == 1 && time % 1440 + roads[road][2] > in[1]) {
            return 3;
        }
        for (int[] closure : closures) {
            if (closure[0] == road && closure[1] <= time && time < closure[2]) {
                return 4;
            }
        }
        return time + roads[road][2] > 2880 ? 5 : 0;
    }

    /** Whether one who came to a place at a time, and has been there until another one, can wait for one minute more. */
    private boolean canWait(int place, int came, int time) {
        int minute = time % 1440;
        return time < 2880 && rooms[place][0] <= minute && minute < rooms[place][1] && time + 1 - came <= rooms[place][2];
    }

    /** Adds all ways that go on from the way, whose traveller came to its place at a time, and was there up to its own. */
    private void goOn(Way way, int came, List<Way> ways, boolean[][] presence) {
        int time = way.time;
        while (ways.size() < MOST_WAYS) {
            presence[way.place][time] = true;
            for (int road = 0; road < roads.length; road++) {
                if (roads[road][0] == way.place && why(road, time) == 0) {
                    int end = time + roads[road][2];
                    boolean first = way.roads == 0;
                    Way longer = new Way(roads[road][1], end, way.roads + 1, way.set | 1 << road, first ? road : way.first,
                        first ? time : way.firstEntry);
                    ways.add(longer);
                    goOn(longer, end, ways, presence);
                }
            }
            if (!canWait(way.place, came, time)) {
                return;
            }
            time++;
        }
    }

    private List<Way> waysFrom(int place, int came, int time, boolean[][] presence) {
        List<Way> ways = new ArrayList<>();
        Way none = new Way(place, time, 0, 0, NONE, NONE);
        ways.add(none);
        goOn(none, came, ways, presence);
        return ways;
    }

    private static boolean[][] nobody() {
        return new boolean[8][2881];
    }

    private static int earliest(List<Way> ways, int place) {
        int earliest = NONE;
        for (Way way : ways) {
            if (way.place == place && (earliest == NONE || way.time < earliest)) {
                earliest = way.time;
            }
        }
        return earliest;
    }

    private boolean askWays(int from, int time) {
        List<Way> ways = waysFrom(from, time, time, nobody());
        if (ways.size() >= MOST_WAYS) {
            return false;
        }
        for (int to = 0; to < places; to++) {
            int end = earliest(ways, to);
            same("earliest", new int[] {from, to, time}, x.earliest(from, to, time), end);
            askWay(from, to, time, end, ways);
        }
        for (int by = time - 1; by < time + 8; by++) {
            int set = 0;
            for (Way way : ways) {
                set |= way.time <= by ? 1 << way.place : 0;
            }
            int due = by < 0 || by > 2880 ? -2 : set;
            same("reach", new int[] {from, time, by}, x.reach(from, time, by), due);
        }
        return true;
    }

    private void askWay(int from, int to, int time, int end, List<Way> ways) {
        int[] due = {NONE, NONE, NONE, NONE};
        int needed = -1;
        for (Way way : ways) {
            if (way.place == to && way.time == end) {
                needed &= way.set;
                due[0] = due[0] == NONE ? way.roads : Math.min(due[0], way.roads);
                if (way.roads > 0 && (due[1] == NONE || way.first < due[1])) {
                    due[1] = way.first;
                    due[2] = way.firstEntry;
                    due[3] = way.firstEntry;
                }
                if (way.roads > 0 && way.first == due[1]) {
                    due[2] = Math.min(due[2], way.firstEntry);
                    due[3] = Math.max(due[3], way.firstEntry);
                }
            }
        }
        for (int what = 0; what < 4; what++) {
            same("way", new int[] {from, to, time, what}, x.way(from, to, time, what), due[what]);
        }
        same("needed", new int[] {from, to, time}, x.needed(from, to, time), end == NONE || from == to ? 0 : needed);
    }

    private boolean askLatest(int from, int to, int by) {
        int latest = NONE;
        for (int time = by; time >= 0 && latest == NONE; time--) {
            List<Way> ways = waysFrom(from, time, time, nobody());
            if (ways.size() >= MOST_WAYS) {
                return false;
            }
            int end = earliest(ways, to);
            latest = end != NONE && end <= by ? time : NONE;
        }
        same("latest", new int[] {from, to, by}, x.latest(from, to, by), latest);
        return true;
    }

    private void makeTraveller() {
        int[] t = {up(places), Math.min(begin + up(6), 2880), 0};
        t[2] = t[1];
        int number = travellers.size();
        same("traveller", t, x.traveller(t[0], t[1]), number);
        for (int i = up(3); i > 0; i--) {
            boolean can = canWait(t[0], t[1], t[2]);
            t[2] += can ? 1 : 0;
            same("stay", new int[] {number, 1}, x.stay(number, 1), can ? t[2] : -5);
        }
        travellers.add(t);
    }

    private boolean askTravellers() {
        boolean[][][] presence = new boolean[travellers.size()][][];
        for (int i = 0; i < presence.length; i++) {
            int[] t = travellers.get(i);
            presence[i] = nobody();
            List<Way> ways = waysFrom(t[0], t[1], t[2], presence[i]);
            if (ways.size() >= MOST_WAYS) {
                return false;
            }
            for (int place = 0; place < places; place++) {
                same("arrives", new int[] {i, place}, x.arrives(i, place), earliest(ways, place));
            }
            int minutes = 0;
            while (canWait(t[0], t[1], t[2] + minutes)) {
                minutes++;
            }
            same("canStay", new int[] {i}, x.canStay(i), minutes);
        }
        for (int i = 0; i < presence.length; i++) {
            for (int j = 0; j < presence.length; j++) {
                askMeet(i, j, presence[i], presence[j]);
            }
        }
        return true;
    }

    private void askMeet(int one, int other, boolean[][] presence, boolean[][] otherPresence) {
        int[] due = {NONE, NONE};
        for (int time = 2880; time >= 0; time--) {
            for (int place = places - 1; place >= 0; place--) {
                if (presence[place][time] && otherPresence[place][time]) {
                    due = new int[] {time, place};
                }
            }
        }
        for (int what = 0; what < 2; what++) {
            same("meet", new int[] {one, other, what}, x.meet(one, other, what), due[what]);
        }
    }

    /** Whether the world was narrow enough to be asked about. */
    private boolean play() {
        for (int road = 0; road < roads.length; road++) {
            for (int time = begin; time < begin + 5; time++) {
                same("whyShut", new int[] {road, time}, x.whyShut(road, time), why(road, time));
            }
        }
        for (int i = 0; i < 3; i++) {
            if (!askWays(up(places), Math.min(begin + up(4), 2880))
                    || !askLatest(up(places), up(places), Math.min(begin + up(20), 2880))) {
                return false;
            }
        }
        for (int i = 0; i < 3; i++) {
            makeTraveller();
        }
        return askTravellers();
    }

    public static void main(String[] args) {
        int runs = args.length > 0 ? Integer.parseInt(args[0]) : 1500;
        int first = args.length > 1 ? Integer.parseInt(args[1]) : 0;
        int narrow = 0;
        for (int seed = first; seed < first + runs; seed++) {
            EveryWayTest test = new EveryWayTest(seed);
            narrow += test.play() ? 1 : 0;
            if (!test.same) {
                System.out.println("EveryWayTest, seed " + seed + ":\n" + test.run);
                System.exit(1);
            }
        }
        if (2 * narrow < runs) {
            System.out.println("EveryWayTest: only " + narrow + " of " + runs + " worlds were narrow enough");
            System.exit(1);
        }
    }
}
