/** Promises 8 to 10 and 22 to 24: traveller, go, stay, meet, arrives, canStay. */
final class TravellersTest {
    private static final Due DUE = new Due("TravellersTest");
    private static final int MIN = Integer.MIN_VALUE;
    private static final int MAX = Integer.MAX_VALUE;

    public static void main(String[] args) {
        traveller();
        go();
        goOrder();
        stay();
        staySpans();
        meet();
        meetWaiting();
        arrives();
        canStay();
        DUE.end();
    }

    private static void traveller() {
        GateRoads x = new GateRoads();
        DUE.is("8 the first", x.traveller(7, 2880), 0);
        DUE.is("8 the second", x.traveller(0, 0), 1);
        int[] first = {7, 2880, 2880, 0, 0, 0, 7, 2880};
        for (int what = 0; what < 8; what++) {
            DUE.is("8 what it is, " + what, x.ofTraveller(0, what), first[what]);
        }
        DUE.is("8 place", x.traveller(8, -1), -1);
        DUE.is("8 place", x.traveller(-1, 0), -1);
        DUE.is("8 time", x.traveller(0, -1), -2);
        DUE.is("8 time", x.traveller(0, 2881), -2);
        DUE.is("8 errors change nothing", x.count(2), 2);
        DUE.is("8 two changes", x.count(5), 2);
        for (int i = 2; i < 10; i++) {
            DUE.is("8 up to 10", x.traveller(1, i), i);
        }
        DUE.is("8 the 11th", x.traveller(1, 1), -4);
        DUE.is("8 BAD_VALUE ahead of TOO_MANY", x.traveller(1, MAX), -2);
        DUE.is("8 NO_SUCH ahead of TOO_MANY", x.traveller(MIN, 1), -1);
        DUE.is("8 still 10", x.count(2), 10);
        DUE.is("8 a change", x.undo(), 5);
        DUE.is("8 undone", x.count(2), 9);
    }

    private static void go() {
        GateRoads x = new GateRoads();
        x.road(0, 1, 100);
        x.traveller(0, 300);
        x.close(0, 301, 2880);
        x.room(0, 0, 0, 0);
        DUE.is("9 the time then", x.go(0, 0), 400);
        DUE.is("9 a change", x.count(5), 5);
        x.road(1, 0, 50);
        int[] then = {1, 400, 400, 1, 0, 100, 0, 300};
        for (int what = 0; what < 8; what++) {
            DUE.is("9 what it is then, " + what, x.ofTraveller(0, what), then[what]);
        }
        DUE.is("9 how often it was entered", x.ofRoad(0, 12), 1);
        DUE.is("9 the other was not", x.ofRoad(1, 12), 0);
        x.stay(0, 30);
        DUE.is("9 back", x.go(0, 1), 480);
        DUE.is("9 it came just then", x.ofTraveller(0, 2), 480);
        DUE.is("9 two roads", x.ofTraveller(0, 3), 2);
        DUE.is("9 minutes that it waited", x.ofTraveller(0, 4), 30);
        DUE.is("9 minutes on roads", x.ofTraveller(0, 5), 150);
        DUE.is("9 no such traveller", x.go(1, 0), -1);
        DUE.is("9 no such traveller", x.go(-1, 0), -1);
        DUE.is("9 no such road", x.go(0, 2), -1);
        DUE.is("9 no such road", x.go(0, MAX), -1);
        DUE.is("9 the reason stays", x.count(3), 0);
        DUE.is("9 a change", x.undo(), 5);
        DUE.is("9 undone", x.ofTraveller(0, 0), 1);
        DUE.is("9 undone", x.ofRoad(1, 12), 0);
    }

    private static void refused(GateRoads x, String what, int answer, int reason) {
        DUE.is(what + " is refused", answer, -5);
        DUE.is("the reason of " + what, x.count(3), reason);
    }

    private static void goOrder() {
        GateRoads x = new GateRoads();
        x.road(0, 1, 100);
        x.road(1, 0, 100);
        x.traveller(0, 2850);
        x.open(1, 0, 10, 1);
        x.close(1, 0, 2880);
        refused(x, "9 1 of 1, 2, 4, 5", x.go(0, 1), 1);
        x.open(0, 0, 1410, 1);
        x.close(0, 2840, 2860);
        refused(x, "9 2 of 2, 4, 5", x.go(0, 0), 2);
        x.open(0, 1410, 1440, 1);
        refused(x, "9 3 of 3, 4, 5", x.go(0, 0), 3);
        x.open(0, 1410, 1411, 0);
        refused(x, "9 4 of 4, 5", x.go(0, 0), 4);
        x.lift(1);
        refused(x, "9 5", x.go(0, 0), 5);
        DUE.is("9 nothing changed", x.ofTraveller(0, 1), 2850);
        DUE.is("9 nothing was entered", x.ofRoad(0, 12), 0);
        x.traveller(0, 2780);
        x.open(0, 0, 1440, 0);
        DUE.is("9 to the last minute", x.go(1, 0), 2880);
        DUE.is("9 the reason stays", x.count(3), 5);
        refused(x, "9 at the last minute", x.go(1, 1), 3);
        x.traveller(0, 1439);
        DUE.is("9 across midnight", x.go(2, 0), 1539);
    }

    private static void stay() {
        GateRoads x = new GateRoads();
        x.traveller(2, 100);
        DUE.is("10 a minute", x.stay(0, 1), 101);
        DUE.is("10 up to the limit", x.stay(0, 999), 1100);
        refused(x, "10 above the limit", x.stay(0, 1), 7);
        DUE.is("10 nothing changed", x.ofTraveller(0, 1), 1100);
        DUE.is("10 it came then", x.ofTraveller(0, 2), 100);
        DUE.is("10 it waited", x.ofTraveller(0, 4), 1000);
        DUE.is("10 no such traveller", x.stay(1, 0), -1);
        DUE.is("10 no such traveller", x.stay(-1, 1), -1);
        DUE.is("10 minutes", x.stay(0, 0), -2);
        DUE.is("10 minutes", x.stay(0, 1001), -2);
        DUE.is("10 minutes", x.stay(0, MIN), -2);
        DUE.is("10 minutes", x.stay(0, MAX), -2);
        x.traveller(3, 2000);
        DUE.is("10 all of 1000", x.stay(1, 880), 2880);
        refused(x, "10 5 of 5, 7", x.stay(1, 1000), 5);
        x.room(3, 1, 1440, 0);
        refused(x, "10 5 of 5, 6, 7", x.stay(1, 1), 5);
        DUE.is("10 a change", x.undo(), 5);
        DUE.is("10 the limit is back", x.ofPlace(3, 2), 1000);
        x.undo();
        DUE.is("10 undone", x.ofTraveller(1, 1), 2000);
        DUE.is("10 the reason is not", x.count(3), 5);
    }

    private static void staySpans() {
        GateRoads x = new GateRoads();
        x.room(0, 480, 600, 60);
        x.traveller(0, 479);
        refused(x, "10 ahead of its opening", x.stay(0, 1), 6);
        x.traveller(0, 570);
        DUE.is("10 up to its end", x.stay(1, 30), 600);
        refused(x, "10 behind its end", x.stay(1, 1), 6);
        x.traveller(0, 480);
        refused(x, "10 6 of 6, 7", x.stay(2, 121), 6);
        refused(x, "10 7", x.stay(2, 120), 7);
        DUE.is("10 the limit", x.stay(2, 60), 540);
        refused(x, "10 in all since it came", x.stay(2, 1), 7);
        x.traveller(0, 1920);
        DUE.is("10 on the second day", x.stay(3, 10), 1930);
        x.room(1, 0, 1440, 1000);
        x.traveller(1, 1400);
        DUE.is("10 across midnight", x.stay(4, 100), 1500);
        x.room(2, 1, 1440, 1000);
        x.traveller(2, 1400);
        refused(x, "10 shut for a minute at midnight", x.stay(5, 41), 6);
        DUE.is("10 up to midnight", x.stay(5, 40), 1440);
        x.room(3, 0, 1439, 1000);
        x.traveller(3, 1430);
        refused(x, "10 shut for a minute ahead of midnight", x.stay(6, 10), 6);
        x.room(4, 700, 700, 1000);
        x.traveller(4, 700);
        refused(x, "10 never open", x.stay(7, 1), 6);
        x.room(5, 0, 1440, 0);
        x.traveller(5, 700);
        refused(x, "10 no minute", x.stay(8, 1), 7);
    }

    private static void meet() {
        GateRoads x = new GateRoads();
        x.road(0, 2, 100);
        x.road(1, 2, 40);
        x.road(1, 0, 500);
        x.road(0, 3, 100);
        x.road(1, 3, 100);
        x.traveller(0, 0);
        x.traveller(1, 0);
        DUE.is("22 the time", x.meet(0, 1, 0), 100);
        DUE.is("22 the lowest place", x.meet(0, 1, 1), 2);
        DUE.is("22 the other way round", x.meet(1, 0, 0), 100);
        DUE.is("22 the other way round", x.meet(1, 0, 1), 2);
        x.room(2, 0, 99, 1000);
        DUE.is("22 it can come just then", x.meet(0, 1, 1), 2);
        x.room(1, 0, 59, 1000);
        DUE.is("22 it cannot wait so long", x.meet(0, 1, 0), 100);
        DUE.is("22 at the next place", x.meet(0, 1, 1), 3);
        DUE.is("22 itself, its time", x.meet(1, 1, 0), 0);
        DUE.is("22 itself, its place", x.meet(1, 1, 1), 1);
        DUE.is("22 no such traveller", x.meet(2, 0, 9), -1);
        DUE.is("22 no such traveller", x.meet(0, -1, 0), -1);
        DUE.is("22 what", x.meet(0, 1, 2), -2);
        DUE.is("22 what", x.meet(0, 1, -1), -2);
        x.traveller(5, 0);
        DUE.is("22 they cannot", x.meet(0, 2, 0), -6);
        DUE.is("22 they cannot", x.meet(0, 2, 1), -6);
        x.traveller(5, 1000);
        DUE.is("22 one waits for the other", x.meet(2, 3, 0), 1000);
        x.traveller(5, 2001);
        DUE.is("22 one waits for the other", x.meet(3, 4, 0), -6);
        x.traveller(5, 2880);
        DUE.is("22 at the last minute", x.meet(4, 5, 0), 2880);
        DUE.is("22 no change", x.count(5), 6);
        meetLate();
    }

    private static void meetLate() {
        GateRoads x = new GateRoads();
        x.traveller(0, 100);
        x.traveller(0, 200);
        DUE.is("22 not ahead of the other's time", x.meet(0, 1, 0), 200);
        DUE.is("22 not ahead of the other's time", x.meet(1, 0, 0), 200);
        x.road(1, 2, 80);
        x.traveller(1, 2000);
        x.traveller(2, 2880);
        DUE.is("22 it waits up to the last minute", x.meet(2, 3, 0), 2880);
        DUE.is("22 it waits up to the last minute", x.meet(2, 3, 1), 2);
        DUE.is("23 the last road there is", x.arrives(2, 2), 2080);
        x.close(0, 2000, 2800);
        DUE.is("23 at the last minute", x.arrives(2, 2), 2880);
        DUE.is("22 at the last minute", x.meet(2, 3, 1), 2);
        x.close(0, 2800, 2801);
        DUE.is("23 too late", x.arrives(2, 2), -6);
    }

    private static void meetWaiting() {
        GateRoads x = new GateRoads();
        x.road(0, 1, 10);
        x.room(1, 0, 1440, 50);
        x.traveller(1, 100);
        x.traveller(0, 141);
        DUE.is("22 it waits for 50", x.meet(0, 1, 0), -6);
        x.undo();
        x.traveller(0, 140);
        DUE.is("22 it waits for 50", x.meet(0, 1, 0), 150);
        x.stay(0, 30);
        DUE.is("22 having waited as it has", x.meet(0, 1, 0), 150);
        DUE.is("22 having waited as it has", x.meet(1, 0, 1), 1);
        x.stay(0, 20);
        DUE.is("22 there still", x.meet(0, 1, 0), 150);
        x.room(1, 0, 1440, 20);
        DUE.is("22 it is there, whatever the limit", x.meet(0, 1, 0), 150);
        x.stay(1, 1);
        DUE.is("22 a minute later it is not", x.meet(0, 1, 0), -6);
    }

    private static void arrives() {
        GateRoads x = new GateRoads();
        x.road(0, 1, 10);
        x.open(0, 500, 510, 0);
        x.room(0, 0, 1440, 100);
        x.traveller(0, 420);
        DUE.is("23 it waits", x.arrives(0, 1), 510);
        DUE.is("23 it is there", x.arrives(0, 0), 420);
        x.stay(0, 60);
        DUE.is("23 having waited", x.arrives(0, 1), 510);
        x.room(0, 0, 1440, 79);
        DUE.is("23 it has waited too long", x.arrives(0, 1), -6);
        DUE.is("23 one who came just then need not", x.earliest(0, 1, 480), 510);
        x.room(0, 0, 1440, 80);
        DUE.is("23 it can wait just so long", x.arrives(0, 1), 510);
        x.room(0, 0, 499, 1000);
        DUE.is("23 the room shuts", x.arrives(0, 1), -6);
        DUE.is("23 its own time", x.arrives(0, 0), 480);
        DUE.is("23 no way", x.arrives(0, 7), -6);
        DUE.is("23 no such traveller", x.arrives(1, 0), -1);
        DUE.is("23 no such traveller", x.arrives(MIN, 0), -1);
        DUE.is("23 no such place", x.arrives(0, 8), -1);
        DUE.is("23 no such place", x.arrives(0, -1), -1);
        x.road(0, 2, 1);
        x.road(2, 0, 19);
        x.room(0, 0, 1440, 60);
        DUE.is("23 it comes back, and can wait anew", x.arrives(0, 1), 510);
    }

    private static void canStay() {
        GateRoads x = new GateRoads();
        x.traveller(0, 0);
        DUE.is("24 the limit", x.canStay(0), 1000);
        x.stay(0, 1);
        DUE.is("24 the limit in all", x.canStay(0), 999);
        x.traveller(0, 2000);
        DUE.is("24 the time 2880", x.canStay(1), 880);
        x.traveller(0, 2880);
        DUE.is("24 the time 2880", x.canStay(2), 0);
        x.room(1, 480, 600, 100);
        x.traveller(1, 550);
        DUE.is("24 the room shuts", x.canStay(3), 50);
        x.traveller(1, 1930);
        DUE.is("24 the limit", x.canStay(4), 100);
        x.traveller(1, 479);
        DUE.is("24 it is shut", x.canStay(5), 0);
        x.stay(4, 60);
        x.room(1, 480, 600, 50);
        DUE.is("24 0 at least", x.canStay(4), 0);
        DUE.is("24 no such traveller", x.canStay(6), -1);
        DUE.is("24 no such traveller", x.canStay(-1), -1);
        x.room(2, 0, 600, 1000);
        x.traveller(2, 1430);
        DUE.is("24 it opens at midnight only", x.canStay(6), 0);
    }
}
