/** Promises 17 to 21: earliest, latest, way, reach, needed. */
final class WaysTest {
    private static final Due DUE = new Due("WaysTest");
    private static final int MIN = Integer.MIN_VALUE;
    private static final int MAX = Integer.MAX_VALUE;

    public static void main(String[] args) {
        earliest();
        latest();
        way();
        wayAround();
        reach();
        needed();
        errors();
        longWays();
        DUE.end();
    }

    /** From 0 to 2 by 1, where one can wait for 20 minutes; the second road opens from 100 to 200. */
    private static GateRoads narrow() {
        GateRoads x = new GateRoads();
        x.road(0, 1, 10);
        x.road(1, 2, 10);
        x.open(1, 100, 200, 0);
        x.room(1, 0, 1440, 20);
        return x;
    }

    private static void earliest() {
        GateRoads x = narrow();
        DUE.is("17 one waits at both", x.earliest(0, 2, 0), 110);
        DUE.is("17 just then", x.earliest(0, 2, 90), 110);
        DUE.is("17 a minute later", x.earliest(0, 2, 91), 111);
        DUE.is("17 the last entry", x.earliest(0, 2, 189), 209);
        x.room(0, 0, 0, 1000);
        DUE.is("17 too early", x.earliest(0, 2, 69), -6);
        DUE.is("17 early enough to wait at 1", x.earliest(0, 2, 70), 110);
        DUE.is("17 on the next day", x.earliest(0, 2, 190), -6);
        DUE.is("17 the same place", x.earliest(0, 0, 2880), 2880);
        DUE.is("17 the same place", x.earliest(2, 2, 0), 0);
        DUE.is("17 no road leads there", x.earliest(2, 0, 0), -6);
        x.room(0, 0, 1440, 1000);
        x.close(1, 100, 150);
        DUE.is("17 closed", x.earliest(0, 2, 0), 160);
        x.open(1, 100, 200, 1);
        x.close(1, 150, 191);
        DUE.is("17 strict", x.earliest(0, 2, 600), 1440 + 110);
        x.close(0, 0, 2880);
        DUE.is("17 closed for all times", x.earliest(0, 2, 600), -6);
        DUE.is("17 and no way from one that is open", x.earliest(1, 2, 1540), 1550);
    }

    private static void latest() {
        GateRoads x = narrow();
        DUE.is("18 the last entry", x.latest(0, 2, 2880), 1440 + 189);
        DUE.is("18 by 209", x.latest(0, 2, 209), 189);
        DUE.is("18 by 208", x.latest(0, 2, 208), 188);
        DUE.is("18 by 110", x.latest(0, 2, 110), 90);
        DUE.is("18 by 109", x.latest(0, 2, 109), -6);
        DUE.is("18 from the middle", x.latest(1, 2, 110), 100);
        x.room(1, 0, 1440, 0);
        x.close(0, 80, 100);
        DUE.is("18 not in the closure", x.latest(0, 2, 119), -6);
        DUE.is("18 behind the closure", x.latest(0, 2, 120), 100);
        x.room(1, 0, 1440, 30);
        DUE.is("18 one waits over it", x.latest(0, 2, 119), 79);
        DUE.is("18 the same place", x.latest(3, 3, 77), 77);
        DUE.is("18 by 0", x.latest(3, 3, 0), 0);
        DUE.is("18 by 0", x.latest(0, 2, 0), -6);
        DUE.is("18 no way", x.latest(2, 0, 2880), -6);
        GateRoads y = new GateRoads();
        y.road(0, 1, 600);
        DUE.is("18 at the time 0", y.latest(0, 1, 600), 0);
        DUE.is("18 too early", y.latest(0, 1, 599), -6);
        y.room(0, 500, 600, 1000);
        y.open(0, 590, 600, 0);
        DUE.is("18 it waits in the room", y.latest(0, 1, 1190), 590);
        y.close(0, 591, 600);
        DUE.is("18 having come ahead", y.latest(0, 1, 1199), 590);
        y.road(0, 2, 1);
        y.road(2, 0, 1);
        DUE.is("18 not by a way around", y.latest(2, 1, 1199), 589);
    }

    private static void way() {
        GateRoads x = new GateRoads();
        x.road(0, 3, 100);
        x.road(0, 1, 10);
        x.road(1, 3, 50);
        x.road(0, 2, 30);
        x.road(2, 3, 30);
        x.close(0, 0, 10);
        DUE.is("19 the fewest", x.way(0, 3, 0, 0), 2);
        DUE.is("19 the lowest first road", x.way(0, 3, 0, 1), 1);
        DUE.is("19 at once", x.way(0, 3, 0, 2), 0);
        DUE.is("19 at once", x.way(0, 3, 0, 3), 0);
        x.open(2, 100, 200, 0);
        x.open(4, 120, 200, 0);
        DUE.is("19 the earliest time", x.earliest(0, 3, 10), 110);
        DUE.is("19 one road", x.way(0, 3, 10, 0), 1);
        DUE.is("19 road 0", x.way(0, 3, 10, 1), 0);
        DUE.is("19 no slack", x.way(0, 3, 10, 3), 10);
        x.open(0, 95, 100, 0);
        x.open(2, 100, 200, 0);
        DUE.is("19 by 1", x.way(0, 3, 10, 1), 1);
        DUE.is("19 by both", x.way(0, 3, 10, 0), 2);
        DUE.is("19 from now", x.way(0, 3, 10, 2), 10);
        DUE.is("19 until then", x.way(0, 3, 10, 3), 90);
        x.room(1, 0, 1440, 20);
        DUE.is("19 not so early", x.way(0, 3, 10, 2), 70);
        DUE.is("19 until then", x.way(0, 3, 10, 3), 90);
        x.close(1, 81, 100);
        DUE.is("19 not in the closure", x.way(0, 3, 10, 3), 80);
        x.road(0, 4, 1);
        DUE.is("19 a road of no such way", x.way(0, 3, 10, 1), 1);
        DUE.is("19 the same place", x.way(3, 3, 9, 0), 0);
        DUE.is("19 the same place at the last minute", x.way(3, 3, 2880, 0), 0);
        for (int what = 1; what <= 3; what++) {
            DUE.is("19 the same place, " + what, x.way(3, 3, 9, what), -6);
        }
        for (int what = 0; what <= 3; what++) {
            DUE.is("19 no such way, " + what, x.way(3, 0, 9, what), -6);
        }
    }

    /** The first roads also of ways with more roads, and ways that come through a place twice. */
    private static void wayAround() {
        GateRoads x = new GateRoads();
        x.road(0, 1, 5);
        x.road(1, 0, 5);
        x.road(0, 2, 50);
        x.open(2, 30, 40, 0);
        DUE.is("19 the fewest", x.way(0, 2, 20, 0), 1);
        DUE.is("19 the first of one with more", x.way(0, 2, 20, 1), 0);
        DUE.is("19 its earliest entry", x.way(0, 2, 20, 2), 20);
        DUE.is("19 its latest entry", x.way(0, 2, 20, 3), 20);
        DUE.is("19 its latest entry", x.way(0, 2, 10, 3), 20);
        DUE.is("19 no time for it", x.way(0, 2, 21, 1), 2);
        DUE.is("19 the entry then", x.way(0, 2, 21, 2), 30);
        DUE.is("19 the entry then", x.way(0, 2, 21, 3), 30);
        x.room(0, 0, 1440, 5);
        DUE.is("19 one must go around", x.way(0, 2, 15, 0), 3);
        DUE.is("19 twice", x.way(0, 2, 0, 0), 3);
        x.room(1, 0, 0, 1000);
        DUE.is("19 twice", x.way(0, 2, 0, 0), 5);
        DUE.is("19 an entry at the end of the wait", x.way(0, 2, 25, 1), 2);
        DUE.is("19 an entry at the end of the wait", x.way(0, 2, 25, 2), 30);
        DUE.is("19 from the other place", x.way(1, 2, 0, 0), 6);
        DUE.is("19 nothing of the search before", x.way(0, 2, 0, 0), 5);
        DUE.is("19 as early", x.earliest(0, 2, 0), 80);
        DUE.is("20 there and around", x.reach(0, 0, 79), 3);
        DUE.is("21 all three", x.needed(0, 2, 0), 7);
        DUE.is("21 one", x.needed(0, 2, 25), 4);
    }

    private static void reach() {
        GateRoads x = narrow();
        x.road(2, 7, 1);
        DUE.is("20 by the time itself", x.reach(0, 80, 80), 1);
        DUE.is("20 by an earlier one", x.reach(0, 80, 79), 0);
        DUE.is("20 not yet", x.reach(0, 80, 89), 1);
        DUE.is("20 the next", x.reach(0, 80, 90), 3);
        DUE.is("20 not yet", x.reach(0, 80, 109), 3);
        DUE.is("20 one more", x.reach(0, 80, 110), 7);
        DUE.is("20 all", x.reach(0, 80, 111), 7 + 128);
        DUE.is("20 only itself", x.reach(7, 0, 2880), 128);
        DUE.is("20 the last minute", x.reach(3, 2880, 2880), 8);
        DUE.is("20 the first minute", x.reach(3, 0, 0), 8);
        DUE.is("19 from the second to the last", x.way(1, 2, 100, 0), 1);
        DUE.is("19 nothing of the search before", x.way(0, 2, 90, 0), 2);
    }

    private static void needed() {
        GateRoads x = new GateRoads();
        x.road(0, 1, 10);
        x.road(1, 2, 10);
        x.road(1, 2, 10);
        DUE.is("21 one of two alike", x.needed(0, 2, 0), 1);
        x.open(2, 30, 40, 0);
        DUE.is("21 the other comes later", x.needed(0, 2, 0), 3);
        DUE.is("21 either", x.needed(0, 2, 25), 1);
        DUE.is("21 the same place", x.needed(2, 2, 0), 0);
        DUE.is("21 the same place at the last minute", x.needed(2, 2, 2880), 0);
        DUE.is("21 none at the last minute", x.needed(0, 2, 2880), 0);
        DUE.is("21 no way", x.needed(2, 0, 0), 0);
        x.road(0, 2, 20);
        DUE.is("21 none by itself", x.needed(0, 2, 0), 0);
        for (int i = 4; i < 24; i++) {
            x.road(2, 3, 1);
        }
        x.close(23, 2879, 2880);
        DUE.is("21 any of many", x.needed(2, 3, 5), 0);
        for (int i = 4; i < 23; i++) {
            x.open(i, 0, 1, 0);
        }
        DUE.is("21 the last", x.needed(2, 3, 5), 1 << 23);
        DUE.is("21 nothing changes", x.earliest(2, 3, 5), 6);
    }

    private static void errors() {
        GateRoads x = narrow();
        int[] places = {8, -1, MIN, MAX};
        for (int bad : places) {
            DUE.is("17 from " + bad, x.earliest(bad, 0, -1), -1);
            DUE.is("17 to " + bad, x.earliest(0, bad, 0), -1);
            DUE.is("18 from " + bad, x.latest(bad, 0, -1), -1);
            DUE.is("18 to " + bad, x.latest(0, bad, 0), -1);
            DUE.is("19 from " + bad, x.way(bad, 0, -1, 9), -1);
            DUE.is("19 to " + bad, x.way(0, bad, 0, 0), -1);
            DUE.is("20 from " + bad, x.reach(bad, -1, -1), -1);
            DUE.is("21 from " + bad, x.needed(bad, 0, -1), -1);
            DUE.is("21 to " + bad, x.needed(0, bad, 0), -1);
        }
        int[] times = {-1, 2881, MIN, MAX};
        for (int bad : times) {
            DUE.is("17 time " + bad, x.earliest(0, 0, bad), -2);
            DUE.is("18 by " + bad, x.latest(0, 0, bad), -2);
            DUE.is("19 time " + bad, x.way(0, 0, bad, 0), -2);
            DUE.is("20 time " + bad, x.reach(0, bad, 5), -2);
            DUE.is("20 by " + bad, x.reach(0, 5, bad), -2);
            DUE.is("21 time " + bad, x.needed(0, 0, bad), -2);
        }
        int[] whats = {-1, 4, MIN, MAX};
        for (int bad : whats) {
            DUE.is("19 what " + bad, x.way(0, 0, 0, bad), -2);
            DUE.is("19 what " + bad, x.way(2, 0, 0, bad), -2);
        }
        DUE.is("no change", x.count(5), 4);
    }

    /** Ways of as many roads as there can be, and roads of as many minutes. */
    private static void longWays() {
        GateRoads x = new GateRoads();
        x.road(0, 1, 1);
        x.road(1, 0, 1);
        x.road(0, 2, 1);
        x.room(0, 0, 0, 0);
        x.room(1, 0, 0, 0);
        x.close(2, 0, 2878);
        DUE.is("17 around until 2878", x.earliest(0, 2, 0), 2879);
        DUE.is("19 2879 roads", x.way(0, 2, 0, 0), 2879);
        DUE.is("19 to the last minute", x.way(0, 2, 1, 0), 2879);
        DUE.is("18 to the last minute", x.latest(1, 2, 2880), 2878);
        DUE.is("18 to the one ahead", x.latest(1, 2, 2879), 2877);
        DUE.is("21 all three", x.needed(0, 2, 0), 7);
        GateRoads y = new GateRoads();
        for (int i = 0; i < 4; i++) {
            y.road(i, i + 1, 600);
        }
        DUE.is("17 four of 600", y.earliest(0, 4, 480), 2880);
        DUE.is("17 too late for four", y.earliest(0, 4, 481), -6);
        DUE.is("18 four of 600", y.latest(0, 4, 2880), 480);
        DUE.is("19 four of 600", y.way(0, 4, 480, 0), 4);
    }
}
