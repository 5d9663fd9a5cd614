/** Promises 1 to 7: a new object, room, road, open, more, close, lift. */
final class SettingUpTest {
    private static final Due DUE = new Due("SettingUpTest");
    private static final int MIN = Integer.MIN_VALUE;
    private static final int MAX = Integer.MAX_VALUE;

    public static void main(String[] args) {
        newObject();
        room();
        road();
        open();
        more();
        close();
        lift();
        DUE.end();
    }

    private static void newObject() {
        GateRoads x = new GateRoads();
        for (int what = 0; what <= 5; what++) {
            DUE.is("1 count " + what, x.count(what), 0);
        }
        for (int place = 0; place < 8; place++) {
            DUE.is("1 the room's span", x.ofPlace(place, 0), 0);
            DUE.is("1 the room's span", x.ofPlace(place, 1), 1440);
            DUE.is("1 the limit", x.ofPlace(place, 2), 1000);
            DUE.is("1 roads from it", x.ofPlace(place, 3), 0);
            DUE.is("1 roads to it", x.ofPlace(place, 4), 0);
            DUE.is("1 travellers there", x.ofPlace(place, 5), 0);
        }
        DUE.is("1 no road", x.ofRoad(0, 0), -1);
        DUE.is("1 no closure", x.ofClosure(0, 0), -1);
        DUE.is("1 no traveller", x.ofTraveller(0, 0), -1);
        DUE.is("1 nothing to undo", x.undo(), -6);
        DUE.is("1 nothing saved", x.restore(0), -1);
        DUE.is("1 an empty pad", x.fault(), 0);
        GateRoads y = new GateRoads();
        y.road(0, 1, 5);
        DUE.is("1 each object has its own roads", x.count(0), 0);
    }

    private static void room() {
        GateRoads x = new GateRoads();
        DUE.is("2 the limit at first", x.room(7, 100, 200, 30), 1000);
        DUE.is("2 the previous limit", x.room(7, 0, 1440, 0), 30);
        DUE.is("2 the previous limit 0", x.room(7, 1440, 1440, 1000), 0);
        DUE.is("2 never open", x.ofPlace(7, 0), 1440);
        DUE.is("2 never open", x.ofPlace(7, 1), 1440);
        DUE.is("2 another place stays", x.ofPlace(6, 2), 1000);
        DUE.is("2 a change", x.count(5), 3);
        DUE.is("2 place 8", x.room(8, 0, 0, 0), -1);
        DUE.is("2 place -1", x.room(-1, 0, 0, 0), -1);
        DUE.is("2 NO_SUCH ahead of BAD_VALUE", x.room(MIN, -1, 0, 0), -1);
        DUE.is("2 from", x.room(0, -1, 1440, 0), -2);
        DUE.is("2 from", x.room(0, 1441, 1441, 0), -2);
        DUE.is("2 to ahead of from", x.room(0, 10, 9, 0), -2);
        DUE.is("2 to", x.room(0, 10, 1441, 0), -2);
        DUE.is("2 to", x.room(0, MAX, MIN, 0), -2);
        DUE.is("2 limit", x.room(0, 10, 10, -1), -2);
        DUE.is("2 limit", x.room(0, 10, 10, 1001), -2);
        DUE.is("2 errors change nothing", x.ofPlace(0, 2), 1000);
        DUE.is("2 errors are no changes", x.count(5), 3);
    }

    private static void road() {
        GateRoads x = new GateRoads();
        DUE.is("3 the first", x.road(0, 7, 1), 0);
        DUE.is("3 the second", x.road(7, 0, 600), 1);
        DUE.is("3 one more between the same places", x.road(0, 7, 1), 2);
        DUE.is("3 no such place", x.road(8, 0, 1), -1);
        DUE.is("3 no such place", x.road(0, 8, 1), -1);
        DUE.is("3 no such place", x.road(-1, 0, 1), -1);
        DUE.is("3 no such place", x.road(0, MIN, 1), -1);
        DUE.is("3 both the same", x.road(3, 3, 1), -1);
        DUE.is("3 both the same ahead of BAD_VALUE", x.road(3, 3, 0), -1);
        DUE.is("3 minutes", x.road(3, 4, 0), -2);
        DUE.is("3 minutes", x.road(3, 4, 601), -2);
        DUE.is("3 minutes", x.road(3, 4, MIN), -2);
        DUE.is("3 errors change nothing", x.count(0), 3);
        for (int i = 3; i < 24; i++) {
            DUE.is("3 up to 24", x.road(1, 2, 20), i);
        }
        DUE.is("3 the 25th", x.road(1, 2, 20), -4);
        DUE.is("3 BAD_VALUE ahead of TOO_MANY", x.road(1, 2, 601), -2);
        DUE.is("3 NO_SUCH ahead of TOO_MANY", x.road(1, 1, 20), -1);
        DUE.is("3 still 24", x.count(0), 24);
        DUE.is("3 open all day at first", x.ofRoad(23, 5), 0);
        DUE.is("3 open all day at first", x.ofRoad(23, 6), 1440);
        DUE.is("3 not strict at first", x.ofRoad(23, 3), 0);
        DUE.is("3 a change", x.undo(), 5);
        DUE.is("3 undone", x.count(0), 23);
    }

    private static void open() {
        GateRoads x = new GateRoads();
        x.road(0, 1, 10);
        DUE.is("4 it had one", x.open(0, 0, 1, 1), 1);
        DUE.is("4 strict", x.ofRoad(0, 3), 1);
        DUE.is("4 from", x.ofRoad(0, 5), 0);
        DUE.is("4 to", x.ofRoad(0, 6), 1);
        x.more(0, 500, 600);
        x.more(0, 100, 200);
        DUE.is("4 it had three", x.open(0, 1439, 1440, 0), 3);
        DUE.is("4 one then", x.ofRoad(0, 4), 1);
        DUE.is("4 from", x.ofRoad(0, 5), 1439);
        DUE.is("4 no second", x.ofRoad(0, 7), -6);
        DUE.is("4 no third", x.ofRoad(0, 10), -6);
        DUE.is("4 not strict", x.ofRoad(0, 3), 0);
        DUE.is("4 changes", x.count(5), 5);
        DUE.is("4 no such road", x.open(1, -1, 0, 2), -1);
        DUE.is("4 no such road", x.open(-1, 0, 10, 0), -1);
        DUE.is("4 from", x.open(0, -1, 10, 0), -2);
        DUE.is("4 from", x.open(0, 1440, 1441, 0), -2);
        DUE.is("4 to as from", x.open(0, 10, 10, 0), -2);
        DUE.is("4 to", x.open(0, 10, 1441, 0), -2);
        DUE.is("4 to", x.open(0, MAX, MIN, 0), -2);
        DUE.is("4 strict", x.open(0, 10, 20, 2), -2);
        DUE.is("4 strict", x.open(0, 10, 20, -1), -2);
        DUE.is("4 errors change nothing", x.ofRoad(0, 5), 1439);
        DUE.is("4 errors are no changes", x.count(5), 5);
    }

    private static void more() {
        GateRoads x = new GateRoads();
        x.road(0, 1, 10);
        DUE.is("5 all the day is there", x.more(0, 100, 200), -2);
        x.open(0, 600, 700, 1);
        DUE.is("5 just behind", x.more(0, 700, 710), 2);
        DUE.is("5 a minute in two", x.more(0, 599, 601), -2);
        DUE.is("5 a minute in two", x.more(0, 709, 711), -2);
        DUE.is("5 around one", x.more(0, 500, 800), -2);
        DUE.is("5 inside of one", x.more(0, 650, 651), -2);
        DUE.is("5 just ahead", x.more(0, 590, 600), 3);
        DUE.is("5 a fourth", x.more(0, 0, 1), -4);
        DUE.is("5 BAD_VALUE ahead of TOO_MANY", x.more(0, 0, 0), -2);
        DUE.is("5 a minute in two ahead of TOO_MANY", x.more(0, 580, 591), -2);
        int[] spans = {590, 600, 600, 700, 700, 710};
        for (int i = 0; i < 6; i++) {
            DUE.is("5 in the order of the day", x.ofRoad(0, 5 + i), spans[i]);
        }
        DUE.is("5 still strict", x.ofRoad(0, 3), 1);
        DUE.is("5 no such road", x.more(1, -1, 0), -1);
        DUE.is("5 no such road", x.more(-1, 0, 5), -1);
        x.open(0, 600, 700, 0);
        DUE.is("5 from", x.more(0, -1, 5), -2);
        DUE.is("5 from", x.more(0, 1440, 1440), -2);
        DUE.is("5 to", x.more(0, 0, 1441), -2);
        DUE.is("5 to", x.more(0, 800, 1441), -2);
        DUE.is("5 to", x.more(0, MAX, MIN), -2);
        DUE.is("5 errors change nothing", x.ofRoad(0, 4), 1);
        DUE.is("5 the day's end", x.more(0, 1439, 1440), 2);
        DUE.is("5 the day's beginning", x.more(0, 0, 1), 3);
        DUE.is("5 a change", x.undo(), 5);
        DUE.is("5 undone", x.ofRoad(0, 4), 2);
        DUE.is("5 undone", x.ofRoad(0, 9), -6);
    }

    private static void close() {
        GateRoads x = new GateRoads();
        x.road(0, 1, 10);
        x.road(1, 0, 10);
        DUE.is("6 the first", x.close(1, 0, 2880), 0);
        DUE.is("6 the second, at the same time", x.close(1, 2879, 2880), 1);
        DUE.is("6 its road", x.ofClosure(1, 0), 1);
        DUE.is("6 its span", x.ofClosure(1, 1), 2879);
        DUE.is("6 its span", x.ofClosure(1, 2), 2880);
        DUE.is("6 no such road", x.close(2, -1, 0), -1);
        DUE.is("6 no such road", x.close(-1, 0, 1), -1);
        DUE.is("6 from", x.close(0, -1, 5), -2);
        DUE.is("6 from", x.close(0, 2880, 2881), -2);
        DUE.is("6 to as from", x.close(0, 5, 5), -2);
        DUE.is("6 to", x.close(0, 5, 2881), -2);
        DUE.is("6 to", x.close(0, MAX, MIN), -2);
        DUE.is("6 errors change nothing", x.count(1), 2);
        for (int i = 2; i < 20; i++) {
            DUE.is("6 up to 20", x.close(0, i, i + 1), i);
        }
        DUE.is("6 the 21st", x.close(0, 5, 6), -4);
        DUE.is("6 BAD_VALUE ahead of TOO_MANY", x.close(0, 6, 6), -2);
        DUE.is("6 still 20", x.count(1), 20);
        DUE.is("6 of the road", x.ofRoad(0, 11), 18);
        DUE.is("6 a change", x.undo(), 5);
        DUE.is("6 undone", x.count(1), 19);
    }

    private static void lift() {
        GateRoads x = new GateRoads();
        x.road(0, 1, 10);
        DUE.is("7 there is none", x.lift(0), -1);
        for (int i = 0; i < 20; i++) {
            x.close(0, 10 * i, 10 * i + 5);
        }
        DUE.is("7 the last", x.lift(19), 19);
        DUE.is("7 it is gone", x.lift(19), -1);
        DUE.is("7 in between", x.lift(4), 18);
        DUE.is("7 an earlier one keeps its number", x.ofClosure(3, 1), 30);
        DUE.is("7 the later ones come down", x.ofClosure(4, 1), 50);
        DUE.is("7 the later ones come down", x.ofClosure(17, 2), 185);
        DUE.is("7 no such closure", x.ofClosure(18, 1), -1);
        DUE.is("7 the time is free", x.whyShut(0, 40), 0);
        DUE.is("7 the others stay closed", x.whyShut(0, 50), 4);
        DUE.is("7 -1", x.lift(-1), -1);
        DUE.is("7 far off", x.lift(MAX), -1);
        DUE.is("7 far off", x.lift(MIN), -1);
        DUE.is("7 a change", x.undo(), 5);
        DUE.is("7 undone", x.ofClosure(4, 1), 40);
    }
}
