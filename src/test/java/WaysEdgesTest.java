/** The edges of promises 17 to 24: the same place, the last minute, just so long a wait, midnight, and none at all. */
final class WaysEdgesTest {
    private static final Due DUE = new Due("WaysEdgesTest");
    private static final int NONE = -6;

    public static void main(String[] args) {
        samePlace();
        lastMinute();
        firstMinute();
        roomOpens();
        roomShuts();
        limit();
        aroundMidnight();
        onTheRoad();
        latestIsJustThen();
        fewestOfTheEarliest();
        fewestOfThoseWhoCanWait();
        notAgainLater();
        entries();
        reachedBy();
        neededByItself();
        neededInItsTime();
        meetEdges();
        meetByWaiting();
        arrivesAsItHasWaited();
        stays();
        DUE.end();
    }

    /** The way without roads comes to the place at the time itself, also where one cannot wait. */
    private static void samePlace() {
        GateRoads x = new GateRoads();
        x.road(5, 6, 1);
        x.road(6, 5, 1);
        x.room(5, 0, 0, 0);
        int[] times = {0, 1, 1439, 1440, 2879, 2880};
        for (int time : times) {
            DUE.is("17 the same place at " + time, x.earliest(5, 5, time), time);
            DUE.is("18 the same place by " + time, x.latest(5, 5, time), time);
            DUE.is("19 the same place at " + time, x.way(5, 5, time, 0), 0);
            DUE.is("19 no first road at " + time, x.way(5, 5, time, 1), NONE);
            DUE.is("19 no first entry at " + time, x.way(5, 5, time, 2), NONE);
            DUE.is("19 no last entry at " + time, x.way(5, 5, time, 3), NONE);
            DUE.is("20 the place itself by " + time, x.reach(5, time, time), 1 << 5);
            DUE.is("21 none is needed at " + time, x.needed(5, 5, time), 0);
        }
    }

    private static void noWay(GateRoads x, int from, int to, int time) {
        DUE.is("17 no way at " + time, x.earliest(from, to, time), NONE);
        for (int what = 0; what <= 3; what++) {
            DUE.is("19 no way at " + time + ", " + what, x.way(from, to, time, what), NONE);
        }
        DUE.is("20 no way at " + time, x.reach(from, time, 2880) >> to & 1, 0);
        DUE.is("21 no way at " + time, x.needed(from, to, time), 0);
    }

    /** The time at which one comes to a road's end is 2880 at most. */
    private static void lastMinute() {
        GateRoads x = new GateRoads();
        noWay(x, 0, 1, 0);
        DUE.is("18 no road", x.latest(0, 1, 2880), NONE);
        x.road(0, 1, 1);
        x.road(1, 2, 600);
        DUE.is("17 at 2880", x.earliest(0, 1, 2879), 2880);
        DUE.is("19 at 2880", x.way(0, 1, 2879, 0), 1);
        DUE.is("19 at 2880", x.way(0, 1, 2879, 1), 0);
        DUE.is("19 at 2880", x.way(0, 1, 2879, 2), 2879);
        DUE.is("19 at 2880", x.way(0, 1, 2879, 3), 2879);
        DUE.is("20 at 2880", x.reach(0, 2879, 2880), 3);
        DUE.is("20 ahead of 2880", x.reach(0, 2879, 2879), 1);
        DUE.is("21 at 2880", x.needed(0, 1, 2879), 1);
        noWay(x, 0, 1, 2880);
        DUE.is("17 two roads to 2880", x.earliest(0, 2, 2279), 2880);
        DUE.is("21 two roads to 2880", x.needed(0, 2, 2279), 3);
        noWay(x, 0, 2, 2280);
        DUE.is("18 by 2880", x.latest(0, 1, 2880), 2879);
        DUE.is("18 two roads by 2880", x.latest(0, 2, 2880), 2279);
        x.close(1, 0, 2280);
        DUE.is("17 the last minute at which it can be entered", x.earliest(1, 2, 2000), 2880);
        DUE.is("19 the last minute at which it can be entered", x.way(1, 2, 2000, 2), 2280);
        DUE.is("19 the last minute at which it can be entered", x.way(1, 2, 2000, 3), 2280);
        x.close(1, 2280, 2281);
        noWay(x, 1, 2, 2000);
        DUE.is("18 no more", x.latest(1, 2, 2880), NONE);
    }

    private static void firstMinute() {
        GateRoads x = new GateRoads();
        x.road(3, 4, 600);
        DUE.is("17 at 0", x.earliest(3, 4, 0), 600);
        DUE.is("18 by 600", x.latest(3, 4, 600), 0);
        DUE.is("18 by 601", x.latest(3, 4, 601), 1);
        DUE.is("18 by 599", x.latest(3, 4, 599), NONE);
        DUE.is("18 by 0", x.latest(3, 4, 0), NONE);
        DUE.is("19 at 0", x.way(3, 4, 0, 2), 0);
        DUE.is("19 at 0", x.way(3, 4, 0, 3), 0);
        DUE.is("20 by 599", x.reach(3, 0, 599), 8);
        DUE.is("20 by 600", x.reach(3, 0, 600), 24);
        x.open(0, 0, 1, 0);
        DUE.is("18 the minute 0 of the first day", x.latest(3, 4, 2039), 0);
        DUE.is("18 the minute 0 of the next day", x.latest(3, 4, 2040), 1440);
    }

    /** From 0 to 1 in 10 minutes, from the minute 200 on; at 0 one waits in a room that is open as it is told. */
    private static GateRoads gate(int from, int to, int limit) {
        GateRoads x = new GateRoads();
        x.road(0, 1, 10);
        x.open(0, 200, 202, 0);
        x.room(0, from, to, limit);
        return x;
    }

    private static void roomOpens() {
        GateRoads x = gate(100, 300, 1000);
        DUE.is("17 as it opens", x.earliest(0, 1, 100), 210);
        DUE.is("19 as it opens", x.way(0, 1, 100, 2), 200);
        noWayOfDay(x, 99);
        DUE.is("18 as late as it can be", x.latest(0, 1, 211), 201);
        DUE.is("18 by 210", x.latest(0, 1, 210), 200);
        DUE.is("18 by 209", x.latest(0, 1, 209), NONE);
        x.close(0, 201, 202);
        DUE.is("18 one can wait for it", x.latest(0, 1, 1639), 200);
        x.close(0, 200, 201);
        DUE.is("18 no more on this day", x.latest(0, 1, 1649), NONE);
        DUE.is("18 on the next day", x.latest(0, 1, 1650), 1640);
    }

    private static void noWayOfDay(GateRoads x, int time) {
        DUE.is("17 one cannot wait at " + time, x.earliest(0, 1, time), NONE);
        DUE.is("21 one cannot wait at " + time, x.needed(0, 1, time), 0);
    }

    /** One who waits to 200 needs the minutes up to 199 alone. */
    private static void roomShuts() {
        GateRoads x = gate(100, 200, 1000);
        DUE.is("17 as it shuts", x.earliest(0, 1, 150), 210);
        DUE.is("19 as it shuts", x.way(0, 1, 150, 3), 200);
        x = gate(100, 199, 1000);
        noWayOfDay(x, 150);
        noWayOfDay(x, 199);
        DUE.is("17 just then", x.earliest(0, 1, 200), 210);
        DUE.is("17 just then, where it is shut", x.earliest(0, 1, 201), 211);
        x = gate(0, 0, 1000);
        noWayOfDay(x, 199);
        noWayOfDay(x, 0);
        DUE.is("17 a room that is never open", x.earliest(0, 1, 1640), 1650);
        x = gate(1440, 1440, 1000);
        noWayOfDay(x, 199);
        x = gate(200, 200, 1000);
        noWayOfDay(x, 199);
        x = gate(200, 201, 1000);
        x.close(0, 0, 201);
        DUE.is("17 one minute of a room", x.earliest(0, 1, 200), 211);
        noWayOfDay(x, 199);
        x = gate(199, 200, 1000);
        DUE.is("17 one minute of a room", x.earliest(0, 1, 199), 210);
        noWayOfDay(x, 198);
    }

    private static void limit() {
        GateRoads x = gate(0, 1440, 0);
        noWayOfDay(x, 199);
        DUE.is("17 the limit 0", x.earliest(0, 1, 200), 210);
        x = gate(0, 1440, 1);
        DUE.is("17 the limit 1", x.earliest(0, 1, 199), 210);
        noWayOfDay(x, 198);
        x = gate(0, 1440, 1000);
        DUE.is("17 the limit 1000", x.earliest(0, 1, 640), 1650);
        noWayOfDay(x, 639);
        DUE.is("18 the limit 1000", x.latest(0, 1, 1650), 1640);
        x.close(0, 1641, 1642);
        DUE.is("19 the latest entry", x.way(0, 1, 640, 3), 1640);
        x = gate(0, 1440, 999);
        noWayOfDay(x, 640);
        DUE.is("17 the limit 999", x.earliest(0, 1, 641), 1650);
    }

    /** A room that is open in the whole day does not shut at midnight; any other one does. */
    private static void aroundMidnight() {
        int[][] rooms = {{0, 1440, 1650}, {1, 1440, NONE}, {0, 1439, NONE}, {0, 1440, 1650}};
        for (int[] room : rooms) {
            GateRoads x = gate(room[0], room[1], 1000);
            String what = " in a room from " + room[0] + " to " + room[1];
            DUE.is("17 over midnight" + what, x.earliest(0, 1, 1430), room[2]);
            DUE.is("20 over midnight" + what, x.reach(0, 1430, 2880), room[2] == NONE ? 1 : 3);
            DUE.is("19 over midnight" + what, x.way(0, 1, 1430, 0), room[2] == NONE ? NONE : 1);
            DUE.is("19 over midnight" + what, x.way(0, 1, 1430, 2), room[2] == NONE ? NONE : 1640);
            x.traveller(0, 1430);
            DUE.is("23 over midnight" + what, x.arrives(0, 1), room[2]);
            x.traveller(0, 1441);
            DUE.is("22 over midnight" + what, x.meet(0, 1, 0), room[2] == NONE ? NONE : 1441);
        }
        GateRoads x = gate(0, 1439, 1000);
        DUE.is("17 from midnight on", x.earliest(0, 1, 1440), 1650);
        x = gate(1, 1440, 1000);
        DUE.is("17 ahead of its opening", x.earliest(0, 1, 1440), NONE);
        DUE.is("17 as it opens", x.earliest(0, 1, 1441), 1650);
        x.open(0, 1439, 1440, 0);
        DUE.is("17 a road over midnight", x.earliest(0, 1, 1430), 1449);
        x.open(0, 0, 1, 0);
        DUE.is("17 one waits to midnight", x.earliest(0, 1, 1430), 1450);
        DUE.is("18 one waits to midnight", x.latest(0, 1, 2880), 1440);
        DUE.is("18 the minute 0", x.latest(0, 1, 1449), 0);
    }

    /** One who enters a road comes to its end, whatever it has of spans and closures meanwhile. */
    private static void onTheRoad() {
        GateRoads x = new GateRoads();
        x.road(0, 1, 100);
        x.open(0, 50, 51, 0);
        x.close(0, 51, 2880);
        x.traveller(0, 50);
        DUE.is("17 it shuts behind one", x.earliest(0, 1, 50), 150);
        DUE.is("23 it shuts behind one", x.arrives(0, 1), 150);
        DUE.is("9 it shuts behind one", x.go(0, 0), 150);
        noWay(x, 0, 1, 51);
    }

    /** The latest time is one at which one comes there, not one to which one can wait there. */
    private static void latestIsJustThen() {
        GateRoads x = new GateRoads();
        x.road(0, 1, 5);
        x.road(1, 0, 1);
        x.open(0, 500, 501, 0);
        x.room(0, 480, 490, 1000);
        DUE.is("18 just as it is entered", x.latest(0, 1, 505), 500);
        x.close(0, 500, 501);
        DUE.is("18 neither by waiting", x.latest(0, 1, 1944), NONE);
        x.lift(0);
        x.open(0, 490, 491, 0);
        x.close(0, 0, 490);
        x.close(0, 491, 2880);
        DUE.is("18 as it shuts", x.latest(0, 1, 2880), 490);
        x.close(0, 490, 491);
        DUE.is("18 no more", x.latest(0, 1, 2880), NONE);
    }

    /** The fewest roads, and the first road, are those of ways that come at the earliest time alone. */
    private static void fewestOfTheEarliest() {
        GateRoads x = new GateRoads();
        x.road(0, 3, 31);
        x.road(1, 2, 10);
        x.road(0, 1, 10);
        x.road(2, 3, 10);
        DUE.is("19 one road comes a minute later", x.way(0, 3, 0, 0), 3);
        DUE.is("19 its first road", x.way(0, 3, 0, 1), 2);
        x.road(0, 3, 30);
        DUE.is("19 one road comes as early", x.way(0, 3, 0, 0), 1);
        DUE.is("19 the lower number, of the way with three", x.way(0, 3, 0, 1), 2);
        x.road(0, 2, 20);
        DUE.is("19 still one", x.way(0, 3, 0, 0), 1);
        x.close(2, 0, 1);
        DUE.is("19 the next number", x.way(0, 3, 0, 1), 4);
        x.close(4, 0, 1);
        DUE.is("19 two", x.way(0, 3, 0, 0), 2);
        DUE.is("19 the last number", x.way(0, 3, 0, 1), 5);
        x.close(5, 0, 1);
        DUE.is("17 a minute later", x.earliest(0, 3, 0), 31);
        DUE.is("19 the way that was too late", x.way(0, 3, 0, 1), 0);
        DUE.is("19 one of three as early", x.way(0, 3, 0, 0), 1);
    }

    /** One comes first by more roads, or by fewer and cannot wait so long. */
    private static void fewestOfThoseWhoCanWait() {
        GateRoads x = new GateRoads();
        x.road(0, 1, 5);
        x.road(1, 2, 5);
        x.road(0, 2, 20);
        x.road(2, 3, 5);
        x.open(3, 100, 200, 0);
        DUE.is("19 fewer roads come later to 2", x.way(0, 3, 0, 0), 2);
        DUE.is("19 the lower first road", x.way(0, 3, 0, 1), 0);
        x.room(0, 0, 0, 0);
        x.room(1, 0, 0, 0);
        x.room(2, 0, 1440, 85);
        DUE.is("19 just so long", x.way(0, 3, 0, 0), 2);
        DUE.is("19 who came by more roads cannot", x.way(0, 3, 0, 1), 2);
        x.room(2, 0, 1440, 80);
        DUE.is("19 as long as it must be", x.way(0, 3, 0, 0), 2);
        x.room(2, 0, 1440, 79);
        noWay(x, 0, 3, 0);
        x.road(0, 2, 6);
        x.road(4, 2, 40);
        x.road(0, 4, 40);
        x.room(2, 0, 1440, 20);
        DUE.is("19 who came by one road cannot wait", x.way(0, 3, 0, 0), 3);
        DUE.is("19 three times", x.way(0, 3, 0, 0), 3);
        x.room(2, 0, 1440, 94);
        DUE.is("19 nor need it", x.way(0, 3, 0, 0), 2);
    }

    /** One who cannot wait is not there again, however many minutes later: 512, 1024, 1440 or 2048. */
    private static void notAgainLater() {
        for (int later = 1; later <= 2800; later++) {
            if (Integer.bitCount(later) == 1 || later % 1440 == 0 || later % 1000 == 0) {
                GateRoads x = new GateRoads();
                x.road(0, 1, 10);
                x.road(1, 2, 10);
                x.room(0, 0, 0, 0);
                x.room(1, 0, 1440, Math.min(later - 1, 1000));
                x.close(1, 0, 10 + later);
                DUE.is("17 a minute too long, " + later, x.earliest(0, 2, 0), NONE);
                DUE.is("19 a minute too long, " + later, x.way(0, 2, 0, 0), NONE);
                DUE.is("20 a minute too long, " + later, x.reach(0, 0, 2880), 3);
                x.road(0, 2, 100);
                x.close(2, 1, 2880);
                DUE.is("21 by the other road, " + later, x.needed(0, 2, 0), 4);
                x.traveller(1, 10);
                x.traveller(2, 20 + later);
                DUE.is("22 a minute too long, " + later, x.meet(0, 1, 0), NONE);
            }
        }
    }

    /** The earliest and the latest entry: by the time itself, the wait, the span, the closure, and what comes behind. */
    private static void entries() {
        GateRoads x = new GateRoads();
        x.road(0, 1, 10);
        x.road(1, 2, 10);
        x.open(1, 500, 510, 0);
        DUE.is("19 at once", x.way(0, 2, 0, 2), 0);
        DUE.is("19 just in time", x.way(0, 2, 0, 3), 490);
        x.room(0, 0, 1440, 100);
        DUE.is("19 as long as one can wait", x.way(0, 2, 0, 3), 100);
        x.room(0, 0, 80, 100);
        DUE.is("19 up to where the room shuts", x.way(0, 2, 0, 3), 80);
        x.open(0, 20, 60, 0);
        DUE.is("19 as the span begins", x.way(0, 2, 0, 2), 20);
        DUE.is("19 as the span ends", x.way(0, 2, 0, 3), 59);
        x.open(0, 20, 60, 1);
        DUE.is("19 as it must be left then", x.way(0, 2, 0, 3), 50);
        x.close(0, 10, 30);
        x.close(0, 40, 60);
        DUE.is("19 behind the first closure", x.way(0, 2, 0, 2), 30);
        DUE.is("19 ahead of the second one", x.way(0, 2, 0, 3), 39);
        x.room(1, 0, 1440, 455);
        DUE.is("19 early enough to wait at 1", x.way(0, 2, 0, 2), 35);
        x.room(1, 0, 1440, 451);
        DUE.is("19 one entry alone", x.way(0, 2, 0, 2), 39);
        DUE.is("19 one entry alone", x.way(0, 2, 0, 3), 39);
        x.room(1, 0, 1440, 450);
        noWay(x, 0, 2, 0);
    }

    private static void reachedBy() {
        GateRoads x = new GateRoads();
        for (int place = 0; place < 7; place++) {
            x.road(place, place + 1, 1);
        }
        for (int by = 0; by < 10; by++) {
            DUE.is("20 by " + by, x.reach(0, 0, by), (2 << Math.min(by, 7)) - 1);
            DUE.is("20 to " + (2870 + by), x.reach(7 - Math.min(by, 7), 2880 - by, 2880) >> 7, 1);
        }
        DUE.is("20 a minute ahead of the time", x.reach(0, 1, 0), 0);
        DUE.is("20 long ahead of the time", x.reach(0, 2880, 0), 0);
        DUE.is("20 all behind it", x.reach(4, 0, 2880), 0xf0);
        DUE.is("20 nothing more", x.reach(0, 2876, 2880), 0x1f);
    }

    /** Roads without which one comes later, or not at all; each by itself. */
    private static void neededByItself() {
        GateRoads x = new GateRoads();
        x.road(0, 1, 10);
        x.road(0, 1, 11);
        x.road(1, 2, 10);
        DUE.is("21 later by a minute, and not at all", x.needed(0, 2, 0), 5);
        x.open(2, 21, 1440, 0);
        DUE.is("21 no later by the other one", x.needed(0, 2, 0), 4);
        x.road(1, 2, 10);
        x.open(3, 21, 1440, 0);
        DUE.is("21 each by itself, though not both", x.needed(0, 2, 0), 0);
        x.road(2, 0, 1);
        DUE.is("21 a road that leads away", x.needed(0, 2, 0), 0);
        GateRoads y = new GateRoads();
        for (int road = 0; road < 24; road++) {
            y.road(road % 2, 1 - road % 2, 1);
            y.room(road % 2, 0, 0, 0);
        }
        DUE.is("21 one of twelve", y.needed(0, 1, 0), 0);
        for (int road = 0; road < 20; road++) {
            y.close(road, 0, 2880);
        }
        DUE.is("21 one of two", y.needed(0, 1, 0), 0);
        y.open(20, 1, 2, 1);
        y.open(21, 1, 2, 1);
        DUE.is("21 the last but one", y.needed(0, 1, 0), 1 << 22);
        DUE.is("21 the last one", y.needed(1, 0, 0), 1 << 23);
    }

    /** A road that could be entered ahead of coming to it is of no use. */
    private static void neededInItsTime() {
        for (int ahead = 1; ahead <= 9; ahead++) {
            GateRoads x = new GateRoads();
            x.road(0, 1, 10);
            x.road(1, 2, 10);
            x.road(1, 2, 10);
            x.open(1, 10 - ahead, 11 - ahead, 0);
            x.open(2, 10, 11, 0);
            DUE.is("21 a road that shuts " + ahead + " ahead", x.needed(0, 2, 0), 5);
            DUE.is("19 a road that shuts " + ahead + " ahead", x.way(1, 2, 10, 1), 2);
        }
    }

    private static void meetEdges() {
        GateRoads x = new GateRoads();
        x.traveller(7, 2880);
        x.traveller(7, 2880);
        x.traveller(6, 2880);
        x.traveller(6, 2879);
        x.road(6, 7, 1);
        DUE.is("22 at 2880", x.meet(0, 1, 0), 2880);
        DUE.is("22 at 2880", x.meet(0, 1, 1), 7);
        DUE.is("22 not at two places", x.meet(0, 2, 0), NONE);
        DUE.is("22 not at two places", x.meet(0, 2, 1), NONE);
        DUE.is("22 it comes at 2880", x.meet(0, 3, 0), 2880);
        DUE.is("22 it comes at 2880", x.meet(3, 0, 1), 7);
        DUE.is("22 it waits to 2880", x.meet(2, 3, 0), 2880);
        DUE.is("22 it waits to 2880", x.meet(2, 3, 1), 6);
        DUE.is("22 itself", x.meet(3, 3, 0), 2879);
        DUE.is("22 itself", x.meet(3, 3, 1), 6);
        x.room(6, 0, 0, 0);
        DUE.is("22 it cannot wait", x.meet(2, 3, 0), NONE);
        x.traveller(6, 2879);
        DUE.is("22 just then, both", x.meet(3, 4, 0), 2879);
        DUE.is("22 just then, both", x.meet(3, 4, 1), 6);
        x.close(0, 0, 2880);
        DUE.is("22 no road", x.meet(0, 3, 0), NONE);
        x.traveller(0, 0);
        DUE.is("22 the time 0", x.meet(5, 5, 0), 0);
        DUE.is("22 the place 0", x.meet(5, 5, 1), 0);
    }

    /** Two who come to several places at one time, and places at which one of them has to be still. */
    private static void meetByWaiting() {
        GateRoads x = new GateRoads();
        x.road(0, 7, 50);
        x.road(1, 7, 50);
        x.road(0, 3, 50);
        x.road(1, 3, 40);
        x.traveller(0, 100);
        x.traveller(1, 100);
        DUE.is("22 the lowest of two places", x.meet(0, 1, 1), 3);
        x.room(3, 0, 1440, 10);
        DUE.is("22 just so long", x.meet(0, 1, 1), 3);
        x.room(3, 0, 1440, 9);
        DUE.is("22 it leaves later", x.meet(0, 1, 1), 3);
        x.room(1, 0, 1440, 0);
        DUE.is("22 a minute too short", x.meet(0, 1, 1), 7);
        DUE.is("22 as early", x.meet(0, 1, 0), 150);
        x.room(3, 0, 149, 10);
        DUE.is("22 it shuts a minute too early", x.meet(0, 1, 1), 7);
        x.room(3, 0, 150, 10);
        DUE.is("22 it shuts just then", x.meet(0, 1, 1), 3);
    }

    private static void arrivesAsItHasWaited() {
        GateRoads x = gate(0, 1440, 100);
        x.traveller(0, 100);
        DUE.is("23 just so long", x.arrives(0, 1), 210);
        DUE.is("23 where it is", x.arrives(0, 0), 100);
        x.stay(0, 99);
        DUE.is("23 a minute is left", x.arrives(0, 1), 210);
        x.room(0, 0, 1440, 99);
        DUE.is("23 none is left", x.arrives(0, 1), NONE);
        DUE.is("23 one who comes just then", x.earliest(0, 1, 199), 210);
        DUE.is("23 where it is, whatever it has waited", x.arrives(0, 0), 199);
        x.room(0, 0, 1440, 0);
        DUE.is("23 less than none is left", x.arrives(0, 1), NONE);
        x.open(0, 199, 200, 0);
        DUE.is("23 at once, whatever it has waited", x.arrives(0, 1), 209);
        x.traveller(1, 2880);
        DUE.is("23 where it is at 2880", x.arrives(1, 1), 2880);
        DUE.is("23 no way at 2880", x.arrives(1, 0), NONE);
        x.traveller(0, 2880);
        DUE.is("23 no way at 2880", x.arrives(2, 1), NONE);
        x.road(0, 1, 1);
        x.traveller(0, 2879);
        DUE.is("23 to 2880", x.arrives(3, 1), 2880);
    }

    /** Until the waiting room shuts, the limit or the time 2880; 0 at least. */
    private static void stays() {
        int[][] due = {{0, 1440, 1000, 0, 1000}, {0, 1440, 1000, 1880, 1000}, {0, 1440, 1000, 1881, 999},
            {0, 1440, 1000, 2879, 1}, {0, 1440, 1000, 2880, 0}, {0, 1440, 1, 2879, 1}, {0, 1440, 0, 0, 0},
            {100, 200, 1000, 99, 0}, {100, 200, 1000, 100, 100}, {100, 200, 100, 100, 100}, {100, 200, 99, 100, 99},
            {100, 200, 1000, 199, 1}, {100, 200, 1000, 200, 0}, {100, 200, 1000, 1640, 0}, {100, 200, 1000, 1639, 1},
            {1, 1440, 1000, 1430, 10}, {0, 1439, 1000, 1430, 9}, {0, 1440, 20, 1430, 20}, {0, 1, 1000, 1440, 1},
            {1, 1440, 1000, 2870, 10}, {0, 1439, 1000, 2870, 9}, {0, 0, 1000, 0, 0}, {1440, 1440, 1000, 1440, 0},
            {700, 700, 1000, 700, 0}, {0, 1440, 1000, 1440, 1000}};
        for (int[] row : due) {
            GateRoads x = new GateRoads();
            x.room(2, row[0], row[1], row[2]);
            x.traveller(2, row[3]);
            String what = " from " + row[3] + " in a room from " + row[0] + " to " + row[1] + " for " + row[2];
            DUE.is("24" + what, x.canStay(0), row[4]);
            if (row[4] > 0) {
                DUE.is("10 just as long" + what, x.stay(0, row[4]), row[3] + row[4]);
                DUE.is("24 none is left" + what, x.canStay(0), 0);
            }
            if (row[4] < 1000) {
                DUE.is("10 one more" + what, x.stay(0, 1), -5);
            }
        }
    }
}
