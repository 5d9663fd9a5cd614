/** The arguments' ranges: the least and the greatest that are right, and the next ones outside, which are errors. */
final class RangesTest {
    private static final Due DUE = new Due("RangesTest");
    private static final int NO_SUCH = -1, BAD_VALUE = -2;
    private static final int PLACE = 7, DAY = 1440, LAST = 2880;

    public static void main(String[] args) {
        places();
        roads();
        closures();
        travellers();
        slots();
        rooms();
        spans();
        closed();
        minutes();
        times();
        whats();
        codes();
        lengths();
        DUE.end();
    }

    private interface Call {
        int of(GateRoads x, int argument);
    }

    private static void right(String what, int argument, Call call) {
        int answer = call.of(Scene.some(), argument);
        DUE.is(what + " of " + argument + " answered " + answer + ", an error", answer >= -5 && answer < 0 ? 1 : 0, 0);
    }

    /** All from the least to the greatest are right; what lies outside, near and far, is the error. */
    private static void range(String what, int least, int greatest, int error, Call call) {
        for (int near = 0; near < 3; near++) {
            right(what, Math.min(least + near, greatest), call);
            right(what, Math.max(greatest - near, least), call);
            DUE.is(what + " of " + (least - 1 - near), call.of(Scene.some(), least - 1 - near), error);
            DUE.is(what + " of " + (greatest + 1 + near), call.of(Scene.some(), greatest + 1 + near), error);
        }
        right(what, least + (greatest - least) / 2, call);
        for (int bit = 12; bit < 32; bit++) {
            DUE.is(what + " and a high bit", call.of(Scene.some(), least | 1 << bit), error);
            DUE.is(what + " without a high bit", call.of(Scene.some(), greatest - (1 << bit)), error);
        }
        DUE.is(what + " of the least int", call.of(Scene.some(), Integer.MIN_VALUE), error);
        DUE.is(what + " of the greatest int", call.of(Scene.some(), Integer.MAX_VALUE), error);
    }

    private static void places() {
        range("2 room: place", 0, PLACE, NO_SUCH, (x, place) -> x.room(place, 0, 0, 0));
        range("3 road: from", 0, PLACE - 1, NO_SUCH, (x, place) -> x.road(place, 7, 5));
        range("3 road: from", 1, PLACE, NO_SUCH, (x, place) -> x.road(place, 0, 5));
        range("3 road: to", 0, PLACE - 1, NO_SUCH, (x, place) -> x.road(7, place, 5));
        range("3 road: to", 1, PLACE, NO_SUCH, (x, place) -> x.road(0, place, 5));
        range("8 traveller: place", 0, PLACE, NO_SUCH, (x, place) -> x.traveller(place, 0));
        range("11 ofPlace: place", 0, PLACE, NO_SUCH, (x, place) -> x.ofPlace(place, 0));
        range("17 earliest: from", 0, PLACE, NO_SUCH, (x, place) -> x.earliest(place, 0, 0));
        range("17 earliest: to", 0, PLACE, NO_SUCH, (x, place) -> x.earliest(0, place, 0));
        range("18 latest: from", 0, PLACE, NO_SUCH, (x, place) -> x.latest(place, 0, 0));
        range("18 latest: to", 0, PLACE, NO_SUCH, (x, place) -> x.latest(0, place, 0));
        for (int what = 0; what <= 3; what++) {
            int asked = what;
            range("19 way: from", 0, PLACE, NO_SUCH, (x, place) -> x.way(place, 0, 0, asked));
            range("19 way: to", 0, PLACE, NO_SUCH, (x, place) -> x.way(0, place, 0, asked));
        }
        range("20 reach: from", 0, PLACE, NO_SUCH, (x, place) -> x.reach(place, 0, 0));
        range("21 needed: from", 0, PLACE, NO_SUCH, (x, place) -> x.needed(place, 0, 0));
        range("21 needed: to", 0, PLACE, NO_SUCH, (x, place) -> x.needed(0, place, 0));
        range("23 arrives: place", 0, PLACE, NO_SUCH, (x, place) -> x.arrives(0, place));
    }

    private static void roads() {
        range("4 open: road", 0, 2, NO_SUCH, (x, road) -> x.open(road, 0, 1, 0));
        range("5 more: road", 0, 2, NO_SUCH, (x, road) -> {
            x.open(0, 0, 1, 0);
            x.open(1, 0, 1, 0);
            x.open(2, 0, 1, 0);
            return x.more(road, 1, 2);
        });
        range("6 close: road", 0, 2, NO_SUCH, (x, road) -> x.close(road, 0, 1));
        range("9 go: road", 0, 2, NO_SUCH, (x, road) -> {
            int answer = x.go(0, road);
            return answer == -5 ? 0 : answer;
        });
        range("12 ofRoad: road", 0, 2, NO_SUCH, (x, road) -> x.ofRoad(road, 0));
        range("16 whyShut: road", 0, 2, NO_SUCH, (x, road) -> x.whyShut(road, 0));
    }

    private static void closures() {
        range("7 lift: closure", 0, 2, NO_SUCH, (x, closure) -> x.lift(closure));
        range("13 ofClosure: closure", 0, 2, NO_SUCH, (x, closure) -> x.ofClosure(closure, 0));
    }

    private static void travellers() {
        range("9 go: traveller", 0, 1, NO_SUCH, (x, traveller) -> {
            int answer = x.go(traveller, 0);
            return answer == -5 ? 0 : answer;
        });
        range("10 stay: traveller", 0, 1, NO_SUCH, (x, traveller) -> x.stay(traveller, 1));
        range("14 ofTraveller: traveller", 0, 1, NO_SUCH, (x, traveller) -> x.ofTraveller(traveller, 0));
        range("22 meet: traveller", 0, 1, NO_SUCH, (x, traveller) -> x.meet(traveller, 0, 0));
        range("22 meet: other", 0, 1, NO_SUCH, (x, other) -> x.meet(0, other, 1));
        range("22 meet: itself", 0, 1, NO_SUCH, (x, traveller) -> x.meet(traveller, traveller, 1));
        range("23 arrives: traveller", 0, 1, NO_SUCH, (x, traveller) -> x.arrives(traveller, 0));
        range("24 canStay: traveller", 0, 1, NO_SUCH, (x, traveller) -> x.canStay(traveller));
    }

    private static void slots() {
        range("30 save: slot", 0, 1, NO_SUCH, (x, slot) -> x.save(slot));
        range("31 restore: slot", 0, 1, NO_SUCH, (x, slot) -> x.restore(slot));
    }

    private static void rooms() {
        range("2 room: from", 0, DAY, BAD_VALUE, (x, from) -> x.room(0, from, 1440, 0));
        range("2 room: from that is to", 0, DAY, BAD_VALUE, (x, from) -> x.room(0, from, from, 0));
        range("2 room: from up to 700", 0, 700, BAD_VALUE, (x, from) -> x.room(0, from, 700, 0));
        range("2 room: to", 0, DAY, BAD_VALUE, (x, to) -> x.room(0, 0, to, 0));
        range("2 room: to from 700", 700, DAY, BAD_VALUE, (x, to) -> x.room(0, 700, to, 0));
        range("2 room: to from 1440", DAY, DAY, BAD_VALUE, (x, to) -> x.room(0, 1440, to, 0));
        range("2 room: limit", 0, 1000, BAD_VALUE, (x, limit) -> x.room(0, 0, 1440, limit));
    }

    private static void spans() {
        range("4 open: from", 0, DAY - 1, BAD_VALUE, (x, from) -> x.open(0, from, 1440, 0));
        range("4 open: from, to the next", 0, DAY - 1, BAD_VALUE, (x, from) -> x.open(0, from, from + 1, 0));
        range("4 open: from up to 699", 0, 699, BAD_VALUE, (x, from) -> x.open(0, from, 700, 0));
        range("4 open: to", 1, DAY, BAD_VALUE, (x, to) -> x.open(0, 0, to, 1));
        range("4 open: to from 701", 701, DAY, BAD_VALUE, (x, to) -> x.open(0, 700, to, 1));
        range("4 open: to from 1440", DAY, DAY, BAD_VALUE, (x, to) -> x.open(0, 1439, to, 1));
        range("4 open: strict", 0, 1, BAD_VALUE, (x, strict) -> x.open(0, 0, 1440, strict));
        range("5 more: from", 1, DAY - 1, BAD_VALUE, (x, from) -> moreBut(x, 0, from, 1440));
        range("5 more: from", 0, DAY - 2, BAD_VALUE, (x, from) -> moreBut(x, 1439, from, 1439));
        range("5 more: from, to the next", 0, DAY - 2, BAD_VALUE, (x, from) -> moreBut(x, 1439, from, from + 1));
        range("5 more: to", 1, DAY - 1, BAD_VALUE, (x, to) -> moreBut(x, 1439, 0, to));
        range("5 more: to", 2, DAY, BAD_VALUE, (x, to) -> moreBut(x, 0, 1, to));
        range("5 more: to from 1440", DAY, DAY, BAD_VALUE, (x, to) -> moreBut(x, 0, 1439, to));
    }

    /** Adds a span to a road that has but one minute. */
    private static int moreBut(GateRoads x, int minute, int from, int to) {
        x.open(2, minute, minute + 1, 0);
        return x.more(2, from, to);
    }

    private static void closed() {
        range("6 close: from", 0, LAST - 1, BAD_VALUE, (x, from) -> x.close(0, from, 2880));
        range("6 close: from, to the next", 0, LAST - 1, BAD_VALUE, (x, from) -> x.close(0, from, from + 1));
        range("6 close: from up to 1439", 0, 1439, BAD_VALUE, (x, from) -> x.close(0, from, 1440));
        range("6 close: to", 1, LAST, BAD_VALUE, (x, to) -> x.close(0, 0, to));
        range("6 close: to from 1441", 1441, LAST, BAD_VALUE, (x, to) -> x.close(0, 1440, to));
        range("6 close: to from 2880", LAST, LAST, BAD_VALUE, (x, to) -> x.close(0, 2879, to));
    }

    private static void minutes() {
        range("3 road: minutes", 1, 600, BAD_VALUE, (x, minutes) -> x.road(0, 1, minutes));
        range("10 stay: minutes", 1, 1000, BAD_VALUE, (x, minutes) -> x.stay(x.traveller(3, 0), minutes));
        range("10 stay: minutes where none can stay", 1, 1000, BAD_VALUE, (x, minutes) -> {
            int answer = x.stay(x.traveller(1, 0), minutes);
            return answer == -5 ? 0 : answer;
        });
    }

    private static void times() {
        range("8 traveller: time", 0, LAST, BAD_VALUE, (x, time) -> x.traveller(0, time));
        range("16 whyShut: time", 0, LAST, BAD_VALUE, (x, time) -> x.whyShut(0, time));
        range("17 earliest: time", 0, LAST, BAD_VALUE, (x, time) -> x.earliest(0, 2, time));
        range("17 earliest: time at the same place", 0, LAST, BAD_VALUE, (x, time) -> x.earliest(7, 7, time));
        range("18 latest: by", 0, LAST, BAD_VALUE, (x, by) -> x.latest(0, 2, by));
        range("18 latest: by at the same place", 0, LAST, BAD_VALUE, (x, by) -> x.latest(7, 7, by));
        for (int what = 0; what <= 3; what++) {
            int asked = what;
            range("19 way: time", 0, LAST, BAD_VALUE, (x, time) -> x.way(0, 2, time, asked));
            range("19 way: time at the same place", 0, LAST, BAD_VALUE, (x, time) -> x.way(7, 7, time, asked));
        }
        range("20 reach: time", 0, LAST, BAD_VALUE, (x, time) -> x.reach(0, time, 1440));
        range("20 reach: by", 0, LAST, BAD_VALUE, (x, by) -> x.reach(0, 1440, by));
        range("20 reach: time that is by", 0, LAST, BAD_VALUE, (x, time) -> x.reach(0, time, time));
        range("21 needed: time", 0, LAST, BAD_VALUE, (x, time) -> x.needed(0, 2, time));
        range("21 needed: time at the same place", 0, LAST, BAD_VALUE, (x, time) -> x.needed(7, 7, time));
    }

    private static void whats() {
        range("11 ofPlace: what", 0, 5, BAD_VALUE, (x, what) -> x.ofPlace(0, what));
        range("12 ofRoad: what", 0, 12, BAD_VALUE, (x, what) -> x.ofRoad(0, what));
        range("13 ofClosure: what", 0, 2, BAD_VALUE, (x, what) -> x.ofClosure(0, what));
        range("14 ofTraveller: what", 0, 7, BAD_VALUE, (x, what) -> x.ofTraveller(0, what));
        range("15 count: what", 0, 5, BAD_VALUE, (x, what) -> x.count(what));
        range("19 way: what", 0, 3, BAD_VALUE, (x, what) -> x.way(0, 2, 0, what));
        range("19 way: what if there is none", 0, 3, BAD_VALUE, (x, what) -> x.way(0, 7, 0, what));
        range("19 way: what at the same place", 0, 3, BAD_VALUE, (x, what) -> x.way(0, 0, 0, what));
        range("22 meet: what", 0, 1, BAD_VALUE, (x, what) -> x.meet(0, 1, what));
        range("22 meet: what of both the same", 0, 1, BAD_VALUE, (x, what) -> x.meet(0, 0, what));
    }

    /** Each code at each of the eight characters; 0 is none there, and right only above all that are. */
    private static void codes() {
        for (int place = 0; place < 8; place++) {
            long others = Scene.characters("!~!~!~!~") & ~(255L << 8 * place);
            for (int code = 0; code < 256; code++) {
                boolean right = code >= 33 && code <= 126 || code == 0 && place == 7;
                DUE.is("25 put: code " + code + " as character " + place, new GateRoads().put(others | (long) code << 8 * place),
                    !right ? BAD_VALUE : code == 0 ? 7 : 8);
            }
        }
    }

    private static void lengths() {
        String text = "!0Az~;:-";
        for (int length = 1; length <= 8; length++) {
            long characters = Scene.characters(text.substring(0, length));
            DUE.is("25 put: " + length + " characters", new GateRoads().put(characters), length);
            for (int bit = 8 * length + 8; bit < 64; bit++) {
                DUE.is("25 put: bit " + bit + " behind " + length, new GateRoads().put(characters | 1L << bit), BAD_VALUE);
            }
            for (int bit = 8 * length; bit < Math.min(8 * length + 8, 64); bit++) {
                int code = 1 << bit - 8 * length;
                DUE.is("25 put: code " + code + " behind " + length, new GateRoads().put(characters | 1L << bit),
                    code == 64 ? length + 1 : BAD_VALUE);
            }
        }
    }
}
