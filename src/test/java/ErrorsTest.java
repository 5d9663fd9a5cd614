import java.util.HashMap;
import java.util.Map;

/**
 * CONVENTIONS: of the errors that apply the first one is returned, and a call that returns an error changes
 * nothing (REFUSED: the reason alone). Also that readings, ways and the pad's own calls leave all else as it was.
 */
final class ErrorsTest {
    private static final Due DUE = new Due("ErrorsTest");
    private static final int MIN = Integer.MIN_VALUE;
    private static final int MAX = Integer.MAX_VALUE;
    private static final int NO_SUCH = -1, BAD_VALUE = -2, BAD_TEXT = -3, TOO_MANY = -4, REFUSED = -5, NONE = -6;

    /** Also behind so many undo() and behind these others all is as without the call: history and slots stay. */
    private static final int LOOKS = 10;
    private static final Map<String, String> TOLD = new HashMap<>();

    public static void main(String[] args) {
        settingUp();
        travellers();
        numbers();
        ways();
        texts();
        saving();
        whatIsFull();
        inFull();
        refusals();
        nothingThere();
        readings();
        DUE.end();
    }

    private static void look(GateRoads x, int look) {
        for (int undone = 0; undone < Math.min(look, 6); undone++) {
            x.undo();
        }
        if (look == 7 || look == 8) {
            x.restore(look - 7);
        }
        if (look == 9) {
            x.carryOut();
        }
    }

    private static String told(Scene.Maker maker, Scene.Call call, int look, boolean roads) {
        GateRoads x = maker.make();
        call.of(x);
        look(x, look);
        return Scene.told(x, roads);
    }

    private static void leaves(String scene, Scene.Maker maker, String what, Scene.Call call, int due) {
        DUE.is(what + " of " + scene, call.of(maker.make()), due);
        for (int look = 0; look < LOOKS; look++) {
            for (int part = 0; part < 2; part++) {
                int like = look;
                boolean roads = part == 1;
                String before = TOLD.computeIfAbsent(scene + look + roads, key -> told(maker, x -> 0, like, roads));
                String after = told(maker, call, look, roads);
                if (due == REFUSED) {
                    before = before.replaceAll("count 3 .", "");
                    after = after.replaceAll("count 3 .", "");
                }
                DUE.is(what + " of " + scene + " changed something, look " + look, after.equals(before) ? 0 : 1, 0);
            }
        }
    }

    /** An error whatever there is: in no object there are places, roads and their like of these numbers. */
    private static void error(int due, String what, Scene.Call call) {
        leaves("empty", Scene::empty, what, call, due);
        leaves("some", Scene::some, what, call, due);
        leaves("full", Scene::full, what, call, due);
    }

    /** An error where there are roads, closures and travellers. */
    private static void errorOfSome(int due, String what, Scene.Call call) {
        leaves("some", Scene::some, what, call, due);
        leaves("full", Scene::full, what, call, due);
    }

    private static void settingUp() {
        error(NO_SUCH, "2 room: place, from", x -> x.room(8, -1, 1440, 1000));
        error(NO_SUCH, "2 room: place, limit", x -> x.room(-1, 0, 1440, 1001));
        error(BAD_VALUE, "2 room: from", x -> x.room(0, -1, 1440, 1000));
        error(BAD_VALUE, "2 room: from, to", x -> x.room(1, 1441, 1441, 1000));
        error(BAD_VALUE, "2 room: to ahead of from", x -> x.room(1, 700, 699, 1000));
        error(BAD_VALUE, "2 room: to", x -> x.room(1, 0, 1441, 1000));
        error(BAD_VALUE, "2 room: limit", x -> x.room(7, 0, 1440, 1001));
        error(BAD_VALUE, "2 room: limit", x -> x.room(7, 0, 1440, -1));
        error(NO_SUCH, "3 road: from", x -> x.road(8, 0, 1));
        error(NO_SUCH, "3 road: to, minutes", x -> x.road(0, 8, 0));
        error(NO_SUCH, "3 road: both the same, minutes", x -> x.road(7, 7, 601));
        error(NO_SUCH, "3 road: both the same, and none", x -> x.road(8, 8, 1));
        error(BAD_VALUE, "3 road: minutes", x -> x.road(0, 7, 0));
        error(BAD_VALUE, "3 road: minutes", x -> x.road(7, 0, 601));
        error(NO_SUCH, "4 open: road", x -> x.open(24, 0, 1440, 1));
        error(NO_SUCH, "4 open: road, from, to, strict", x -> x.open(-1, -1, MIN, 2));
        errorOfSome(BAD_VALUE, "4 open: from", x -> x.open(0, -1, 1440, 1));
        errorOfSome(BAD_VALUE, "4 open: from", x -> x.open(0, 1440, 1440, 1));
        errorOfSome(BAD_VALUE, "4 open: to", x -> x.open(0, 0, 0, 1));
        errorOfSome(BAD_VALUE, "4 open: to", x -> x.open(0, 1439, 1441, 1));
        errorOfSome(BAD_VALUE, "4 open: strict", x -> x.open(0, 0, 1440, 2));
        errorOfSome(BAD_VALUE, "4 open: strict", x -> x.open(0, 0, 1440, -1));
        error(NO_SUCH, "5 more: road, from, to", x -> x.more(24, 1440, 1441));
        errorOfSome(BAD_VALUE, "5 more: from", x -> x.more(0, -1, 1));
        errorOfSome(BAD_VALUE, "5 more: to", x -> x.more(0, 1439, 1441));
        errorOfSome(BAD_VALUE, "5 more: to", x -> x.more(0, 5, 5));
        errorOfSome(BAD_VALUE, "5 more: a minute in two spans", x -> x.more(2, 0, 1));
        error(NO_SUCH, "6 close: road, from, to", x -> x.close(24, -1, -1));
        errorOfSome(BAD_VALUE, "6 close: from", x -> x.close(0, -1, 1));
        errorOfSome(BAD_VALUE, "6 close: from", x -> x.close(0, 2880, 2881));
        errorOfSome(BAD_VALUE, "6 close: to", x -> x.close(0, 2879, 2881));
        errorOfSome(BAD_VALUE, "6 close: to", x -> x.close(0, 5, 5));
        error(NO_SUCH, "7 lift: -1", x -> x.lift(-1));
        error(NO_SUCH, "7 lift: 20", x -> x.lift(20));
    }

    private static void travellers() {
        error(NO_SUCH, "8 traveller: place, time", x -> x.traveller(8, 2881));
        error(BAD_VALUE, "8 traveller: time", x -> x.traveller(0, 2881));
        error(BAD_VALUE, "8 traveller: time", x -> x.traveller(7, -1));
        error(NO_SUCH, "9 go: traveller", x -> x.go(10, 0));
        errorOfSome(NO_SUCH, "9 go: road", x -> x.go(0, 24));
        errorOfSome(NO_SUCH, "9 go: road", x -> x.go(0, -1));
        error(NO_SUCH, "10 stay: traveller, minutes", x -> x.stay(10, 0));
        error(NO_SUCH, "10 stay: traveller", x -> x.stay(-1, 1));
        errorOfSome(BAD_VALUE, "10 stay: minutes", x -> x.stay(0, 0));
        errorOfSome(BAD_VALUE, "10 stay: minutes that it could not wait either", x -> x.stay(1, 1001));
        error(NO_SUCH, "22 meet: traveller, what", x -> x.meet(10, 0, 2));
        error(NO_SUCH, "22 meet: other, what", x -> x.meet(0, 10, -1));
        error(NO_SUCH, "22 meet: both the same, and none", x -> x.meet(10, 10, 0));
        errorOfSome(BAD_VALUE, "22 meet: what", x -> x.meet(0, 1, 2));
        errorOfSome(BAD_VALUE, "22 meet: what of both the same", x -> x.meet(1, 1, -1));
        error(NO_SUCH, "23 arrives: traveller", x -> x.arrives(10, 0));
        errorOfSome(NO_SUCH, "23 arrives: place", x -> x.arrives(0, 8));
        error(NO_SUCH, "24 canStay: traveller", x -> x.canStay(10));
        error(NO_SUCH, "24 canStay: traveller", x -> x.canStay(-1));
    }

    private static void numbers() {
        error(NO_SUCH, "11 ofPlace: place, what", x -> x.ofPlace(8, 6));
        error(BAD_VALUE, "11 ofPlace: what", x -> x.ofPlace(0, 6));
        error(BAD_VALUE, "11 ofPlace: what", x -> x.ofPlace(7, -1));
        error(NO_SUCH, "12 ofRoad: road, what", x -> x.ofRoad(24, 13));
        errorOfSome(BAD_VALUE, "12 ofRoad: what", x -> x.ofRoad(0, 13));
        errorOfSome(BAD_VALUE, "12 ofRoad: what", x -> x.ofRoad(0, -1));
        error(NO_SUCH, "13 ofClosure: closure, what", x -> x.ofClosure(20, 3));
        errorOfSome(BAD_VALUE, "13 ofClosure: what", x -> x.ofClosure(0, 3));
        errorOfSome(BAD_VALUE, "13 ofClosure: what", x -> x.ofClosure(0, -1));
        error(NO_SUCH, "14 ofTraveller: traveller, what", x -> x.ofTraveller(10, 8));
        errorOfSome(BAD_VALUE, "14 ofTraveller: what", x -> x.ofTraveller(0, 8));
        errorOfSome(BAD_VALUE, "14 ofTraveller: what", x -> x.ofTraveller(0, -1));
        error(BAD_VALUE, "15 count: what", x -> x.count(6));
        error(BAD_VALUE, "15 count: what", x -> x.count(-1));
        error(NO_SUCH, "16 whyShut: road, time", x -> x.whyShut(24, 2881));
        errorOfSome(BAD_VALUE, "16 whyShut: time", x -> x.whyShut(0, 2881));
        errorOfSome(BAD_VALUE, "16 whyShut: time", x -> x.whyShut(0, -1));
    }

    private static void ways() {
        error(NO_SUCH, "17 earliest: from, time", x -> x.earliest(8, 0, 2881));
        error(NO_SUCH, "17 earliest: to, time", x -> x.earliest(0, 8, -1));
        error(NO_SUCH, "17 earliest: both the same, and none", x -> x.earliest(8, 8, 0));
        error(BAD_VALUE, "17 earliest: time", x -> x.earliest(0, 7, 2881));
        error(BAD_VALUE, "17 earliest: time at the same place", x -> x.earliest(7, 7, -1));
        error(NO_SUCH, "18 latest: from, by", x -> x.latest(8, 0, 2881));
        error(NO_SUCH, "18 latest: to, by", x -> x.latest(0, -1, -1));
        error(NO_SUCH, "18 latest: both the same, and none", x -> x.latest(-1, -1, 0));
        error(BAD_VALUE, "18 latest: by", x -> x.latest(0, 7, -1));
        error(BAD_VALUE, "18 latest: by at the same place", x -> x.latest(7, 7, 2881));
        error(NO_SUCH, "19 way: from, time, what", x -> x.way(8, 0, -1, 4));
        error(NO_SUCH, "19 way: to, time, what", x -> x.way(0, 8, 2881, -1));
        error(NO_SUCH, "19 way: both the same, and none", x -> x.way(8, 8, 0, 0));
        error(BAD_VALUE, "19 way: time", x -> x.way(0, 7, 2881, 0));
        error(BAD_VALUE, "19 way: time at the same place", x -> x.way(3, 3, -1, 1));
        error(BAD_VALUE, "19 way: what", x -> x.way(0, 7, 0, 4));
        error(BAD_VALUE, "19 way: what at the same place", x -> x.way(7, 7, 2880, -1));
        error(NO_SUCH, "20 reach: from, time, by", x -> x.reach(8, 2881, -1));
        error(BAD_VALUE, "20 reach: time", x -> x.reach(0, 2881, 2880));
        error(BAD_VALUE, "20 reach: time", x -> x.reach(0, -1, 2880));
        error(BAD_VALUE, "20 reach: by", x -> x.reach(7, 0, 2881));
        error(BAD_VALUE, "20 reach: by, that is ahead of time too", x -> x.reach(7, 0, -1));
        error(NO_SUCH, "21 needed: from, time", x -> x.needed(8, 0, 2881));
        error(NO_SUCH, "21 needed: to, time", x -> x.needed(0, 8, -1));
        error(NO_SUCH, "21 needed: both the same, and none", x -> x.needed(8, 8, 0));
        error(BAD_VALUE, "21 needed: time", x -> x.needed(0, 7, 2881));
        error(BAD_VALUE, "21 needed: time at the same place", x -> x.needed(7, 7, -1));
    }

    private static void texts() {
        error(BAD_VALUE, "25 put: none", x -> x.put(0));
        error(BAD_VALUE, "25 put: a code of 32", x -> x.put(32));
        error(BAD_VALUE, "25 put: a code of 127", x -> x.put(127));
        error(BAD_VALUE, "25 put: right characters and a wrong one", x -> x.put(Scene.characters("w0+1 ;w0")));
        error(BAD_VALUE, "25 put: a bit above 8 bits that are 0", x -> x.put(1L << 16 | 'w'));
        leaves("empty", Scene::empty, "28 carryOut: an empty pad", GateRoads::carryOut, BAD_TEXT);
        leaves("a wrong text", () -> Scene.written("w0+1;q"), "28 carryOut: a fault", GateRoads::carryOut, BAD_TEXT);
        leaves("no end", () -> Scene.written("w0+1;"), "28 carryOut: a fault", GateRoads::carryOut, BAD_TEXT);
    }

    private static void saving() {
        error(NO_SUCH, "30 save: 2", x -> x.save(2));
        error(NO_SUCH, "30 save: -1", x -> x.save(-1));
        error(NO_SUCH, "31 restore: 2", x -> x.restore(2));
        error(NO_SUCH, "31 restore: -1", x -> x.restore(-1));
        leaves("empty", Scene::empty, "31 restore: nothing was saved", x -> x.restore(0), NO_SUCH);
        leaves("one slot", ErrorsTest::oneSlot, "31 restore: nothing was saved there", x -> x.restore(0), NO_SUCH);
    }

    private static GateRoads oneSlot() {
        GateRoads x = new GateRoads();
        x.road(0, 1, 5);
        x.save(1);
        x.road(1, 0, 5);
        return x;
    }

    private static void whatIsFull() {
        inFull(TOO_MANY, "3 road: 24 roads", x -> x.road(0, 7, 1));
        inFull(BAD_VALUE, "3 road: minutes, and 24 roads", x -> x.road(0, 7, 601));
        inFull(NO_SUCH, "3 road: both the same, and 24 roads", x -> x.road(0, 0, 1));
        inFull(TOO_MANY, "5 more: 3 spans", x -> x.more(0, 0, 60));
        inFull(TOO_MANY, "5 more: 3 spans, between two", x -> x.more(0, 120, 180));
        inFull(BAD_VALUE, "5 more: a minute in two spans, and 3 spans", x -> x.more(0, 0, 61));
        inFull(BAD_VALUE, "5 more: from, and 3 spans", x -> x.more(0, -1, 5));
        inFull(NO_SUCH, "5 more: road, and 3 spans", x -> x.more(24, 0, 60));
        inFull(TOO_MANY, "6 close: 20 closures", x -> x.close(23, 0, 2880));
        inFull(BAD_VALUE, "6 close: to, and 20 closures", x -> x.close(23, 0, 2881));
        inFull(NO_SUCH, "6 close: road, and 20 closures", x -> x.close(24, 0, 2880));
        inFull(TOO_MANY, "8 traveller: 10 travellers", x -> x.traveller(0, 0));
        inFull(BAD_VALUE, "8 traveller: time, and 10 travellers", x -> x.traveller(0, 2881));
        inFull(NO_SUCH, "8 traveller: place, and 10 travellers", x -> x.traveller(8, 0));
        inFull(TOO_MANY, "25 put: 81 characters", x -> x.put('0'));
        inFull(TOO_MANY, "25 put: 88 characters", x -> x.put(Scene.characters("w0+1;w0+")));
        inFull(BAD_VALUE, "25 put: a code of 32, and 81 characters", x -> x.put(32));
    }

    private static void inFull(int due, String what, Scene.Call call) {
        leaves("full", Scene::full, what, call, due);
    }

    /** Full is not as full again: one less, and there is room for just one. */
    private static void inFull() {
        GateRoads x = Scene.full();
        DUE.is("7 lift one of 20", x.lift(7), 19);
        DUE.is("6 the 20th again", x.close(23, 0, 1), 19);
        DUE.is("6 no 21st", x.close(23, 0, 1), TOO_MANY);
        DUE.is("4 open in place of three", x.open(0, 0, 10, 0), 3);
        DUE.is("5 a second", x.more(0, 10, 20), 2);
        DUE.is("5 a third", x.more(0, 20, 30), 3);
        DUE.is("5 no fourth", x.more(0, 30, 40), TOO_MANY);
        DUE.is("26 wipe 80", x.wipe(), 80);
        DUE.is("25 eight again", x.put(Scene.characters("12345678")), 8);
    }

    private static void refusals() {
        leaves("some", Scene::some, "9 go: 1", x -> x.go(0, 2), REFUSED);
        leaves("some", Scene::some, "9 go: 2", x -> x.go(0, 1), REFUSED);
        leaves("some", Scene::some, "10 stay: 6", x -> x.stay(1, 600), REFUSED);
        leaves("some", Scene::some, "10 stay: 7", x -> x.stay(1, 47), REFUSED);
        leaves("some", Scene::some, "10 stay: 46 are not too long", x -> x.canStay(1), 46);
        leaves("late", ErrorsTest::late, "9 go: 3", x -> x.go(0, 0), REFUSED);
        leaves("late", ErrorsTest::late, "9 go: 4", x -> x.go(0, 1), REFUSED);
        leaves("late", ErrorsTest::late, "9 go: 5", x -> x.go(0, 2), REFUSED);
        leaves("late", ErrorsTest::late, "10 stay: 5", x -> x.stay(0, 11), REFUSED);
    }

    private static GateRoads late() {
        GateRoads x = new GateRoads();
        for (int road = 0; road < 3; road++) {
            x.road(0, 1, 11);
        }
        x.open(0, 0, 1440, 1);
        x.close(1, 2870, 2871);
        x.traveller(0, 2870);
        return x;
    }

    /** NONE is no error, and leaves all as it was too. */
    private static void nothingThere() {
        leaves("empty", Scene::empty, "29 undo", GateRoads::undo, NONE);
        leaves("empty", Scene::empty, "17 earliest", x -> x.earliest(0, 1, 0), NONE);
        leaves("empty", Scene::empty, "18 latest", x -> x.latest(0, 1, 2880), NONE);
        leaves("empty", Scene::empty, "19 way", x -> x.way(0, 1, 0, 0), NONE);
        leaves("empty", Scene::empty, "19 way to the same place", x -> x.way(0, 0, 0, 1), NONE);
        leaves("empty", Scene::empty, "21 needed", x -> x.needed(0, 1, 0), 0);
        leaves("empty", Scene::empty, "20 reach", x -> x.reach(7, 0, 2880), 128);
        leaves("empty", Scene::empty, "27 fault", GateRoads::fault, 0);
        leaves("empty", Scene::empty, "26 wipe", GateRoads::wipe, 0);
        leaves("some", Scene::some, "22 meet", x -> x.meet(0, 1, 0), NONE);
        leaves("some", Scene::some, "23 arrives", x -> x.arrives(1, 7), NONE);
        leaves("some", Scene::some, "12 ofRoad: no third span", x -> x.ofRoad(1, 10), NONE);
        int[] strange = {MIN, -1, 0, MAX};
        for (int number : strange) {
            leaves("empty", Scene::empty, "7 lift " + number, x -> x.lift(number), NO_SUCH);
            leaves("empty", Scene::empty, "9 go " + number, x -> x.go(number, number), NO_SUCH);
            leaves("empty", Scene::empty, "16 whyShut " + number, x -> x.whyShut(number, 0), NO_SUCH);
            leaves("empty", Scene::empty, "4 open " + number, x -> x.open(number, 0, 1440, 0), NO_SUCH);
            leaves("empty", Scene::empty, "5 more " + number, x -> x.more(number, 0, 1), NO_SUCH);
            leaves("empty", Scene::empty, "6 close " + number, x -> x.close(number, 0, 1), NO_SUCH);
            leaves("empty", Scene::empty, "10 stay " + number, x -> x.stay(number, 1), NO_SUCH);
            leaves("empty", Scene::empty, "12 ofRoad " + number, x -> x.ofRoad(number, 0), NO_SUCH);
            leaves("empty", Scene::empty, "13 ofClosure " + number, x -> x.ofClosure(number, 0), NO_SUCH);
            leaves("empty", Scene::empty, "14 ofTraveller " + number, x -> x.ofTraveller(number, 0), NO_SUCH);
            leaves("empty", Scene::empty, "22 meet " + number, x -> x.meet(number, number, 0), NO_SUCH);
            leaves("empty", Scene::empty, "23 arrives " + number, x -> x.arrives(number, 0), NO_SUCH);
            leaves("empty", Scene::empty, "24 canStay " + number, x -> x.canStay(number), NO_SUCH);
        }
    }

    /** ---- ways; nothing changes. Nor does anything by a reading. */
    private static void readings() {
        leaves("some", Scene::some, "16 whyShut", x -> x.whyShut(1, 479), 2);
        leaves("some", Scene::some, "17 earliest", x -> x.earliest(0, 2, 460), 500);
        leaves("some", Scene::some, "18 latest", x -> x.latest(0, 2, 530), 500);
        leaves("some", Scene::some, "19 way, fewest", x -> x.way(0, 2, 460, 0), 2);
        leaves("some", Scene::some, "19 way, first road", x -> x.way(0, 2, 460, 1), 0);
        leaves("some", Scene::some, "19 way, earliest entry", x -> x.way(0, 2, 460, 2), 460);
        leaves("some", Scene::some, "19 way, latest entry", x -> x.way(0, 2, 460, 3), 470);
        leaves("some", Scene::some, "20 reach", x -> x.reach(0, 460, 499), 3);
        leaves("some", Scene::some, "21 needed", x -> x.needed(0, 2, 460), 3);
        leaves("some", Scene::some, "22 meet itself", x -> x.meet(1, 1, 0), 704);
        leaves("some", Scene::some, "23 arrives", x -> x.arrives(1, 2), 725);
        leaves("some", Scene::some, "27 fault", GateRoads::fault, NONE);
        leaves("full", Scene::full, "27 fault", GateRoads::fault, NONE);
        leaves("full", Scene::full, "15 count", x -> x.count(5), 6);
    }
}
