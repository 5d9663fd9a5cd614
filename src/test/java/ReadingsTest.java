/** Promises 11 to 16: ofPlace, ofRoad, ofClosure, ofTraveller, count, whyShut; and the constants. */
final class ReadingsTest {
    private static final Due DUE = new Due("ReadingsTest");
    private static final int MIN = Integer.MIN_VALUE;
    private static final int MAX = Integer.MAX_VALUE;

    public static void main(String[] args) {
        constants();
        ofPlace();
        ofRoad();
        ofClosure();
        ofTraveller();
        count();
        whyShut();
        whyShutOrder();
        placeEdges();
        roadEdges();
        closureEdges();
        travellerEdges();
        countEdges();
        DUE.end();
    }

    private static void constants() {
        DUE.is("NO_SUCH", GateRoads.NO_SUCH, -1);
        DUE.is("BAD_VALUE", GateRoads.BAD_VALUE, -2);
        DUE.is("BAD_TEXT", GateRoads.BAD_TEXT, -3);
        DUE.is("TOO_MANY", GateRoads.TOO_MANY, -4);
        DUE.is("REFUSED", GateRoads.REFUSED, -5);
        DUE.is("NONE", GateRoads.NONE, -6);
    }

    private static void ofPlace() {
        GateRoads x = new GateRoads();
        x.room(1, 20, 30, 40);
        x.road(0, 1, 10);
        x.road(1, 0, 10);
        x.road(2, 1, 10);
        x.road(1, 2, 10);
        x.traveller(1, 7);
        x.traveller(0, 7);
        x.traveller(1, 2000);
        int[] one = {20, 30, 40, 10, 5, 5};
        for (int what = 0; what < 6; what++) {
            DUE.is("11 place 1, " + what, x.ofPlace(1, what), one[what]);
        }
        DUE.is("11 traveller 1 at 0", x.ofPlace(0, 5), 2);
        DUE.is("11 nothing from 7", x.ofPlace(7, 3), 0);
        DUE.is("11 place", x.ofPlace(8, 6), -1);
        DUE.is("11 place", x.ofPlace(-1, 0), -1);
        DUE.is("11 what", x.ofPlace(0, 6), -2);
        DUE.is("11 what", x.ofPlace(0, -1), -2);
        for (int i = 4; i < 24; i++) {
            x.road(5, 6, 1);
        }
        DUE.is("11 up to road 23 from it", x.ofPlace(5, 3), 0xfffff0);
        DUE.is("11 up to road 23 to it", x.ofPlace(6, 4), 0xfffff0);
        DUE.is("11 only roads that lead to it", x.ofPlace(5, 4), 0);
    }

    private static void ofRoad() {
        GateRoads x = new GateRoads();
        x.road(3, 5, 77);
        x.road(5, 3, 78);
        x.open(0, 700, 800, 1);
        x.more(0, 100, 200);
        x.close(0, 5, 6);
        x.close(1, 5, 6);
        x.close(0, 5, 6);
        x.traveller(3, 101);
        x.go(0, 0);
        int[] zero = {3, 5, 77, 1, 2, 100, 200, 700, 800, -6, -6, 2, 1};
        for (int what = 0; what < 13; what++) {
            DUE.is("12 road 0, " + what, x.ofRoad(0, what), zero[what]);
        }
        x.more(0, 300, 400);
        int[] spans = {100, 200, 300, 400, 700, 800};
        for (int i = 0; i < 6; i++) {
            DUE.is("12 in the order of the day, " + i, x.ofRoad(0, 5 + i), spans[i]);
        }
        DUE.is("12 three", x.ofRoad(0, 4), 3);
        x.traveller(3, 102);
        x.go(1, 0);
        DUE.is("12 entered by both", x.ofRoad(0, 12), 2);
        x.go(1, 0);
        DUE.is("12 not if it was refused", x.ofRoad(0, 12), 2);
        DUE.is("12 road", x.ofRoad(2, 13), -1);
        DUE.is("12 road", x.ofRoad(-1, 0), -1);
        DUE.is("12 what", x.ofRoad(0, 13), -2);
        DUE.is("12 what", x.ofRoad(0, -1), -2);
        DUE.is("12 what", x.ofRoad(0, MAX), -2);
    }

    private static void ofClosure() {
        GateRoads x = new GateRoads();
        x.road(0, 1, 1);
        x.road(0, 1, 1);
        x.close(1, 12, 34);
        int[] zero = {1, 12, 34};
        for (int what = 0; what < 3; what++) {
            DUE.is("13 closure 0, " + what, x.ofClosure(0, what), zero[what]);
        }
        DUE.is("13 closure", x.ofClosure(1, 3), -1);
        DUE.is("13 closure", x.ofClosure(-1, 0), -1);
        DUE.is("13 what", x.ofClosure(0, 3), -2);
        DUE.is("13 what", x.ofClosure(0, -1), -2);
    }

    private static void ofTraveller() {
        GateRoads x = new GateRoads();
        x.road(4, 6, 25);
        x.road(6, 4, 15);
        x.traveller(4, 1000);
        x.stay(0, 3);
        x.go(0, 0);
        x.stay(0, 4);
        x.go(0, 1);
        x.stay(0, 5);
        x.go(0, 0);
        x.stay(0, 6);
        int[] zero = {6, 1083, 1077, 3, 18, 65, 4, 1000};
        for (int what = 0; what < 8; what++) {
            DUE.is("14 traveller 0, " + what, x.ofTraveller(0, what), zero[what]);
        }
        DUE.is("14 7, 4 and 5 are 1", x.ofTraveller(0, 7) + x.ofTraveller(0, 4) + x.ofTraveller(0, 5),
            x.ofTraveller(0, 1));
        DUE.is("14 traveller", x.ofTraveller(1, 8), -1);
        DUE.is("14 traveller", x.ofTraveller(-1, 0), -1);
        DUE.is("14 what", x.ofTraveller(0, 8), -2);
        DUE.is("14 what", x.ofTraveller(0, -1), -2);
    }

    private static void count() {
        GateRoads x = new GateRoads();
        x.road(0, 1, 600);
        x.road(0, 1, 600);
        x.road(0, 1, 600);
        x.close(0, 1, 2);
        x.close(0, 1, 2);
        x.traveller(0, 2800);
        x.go(0, 1);
        x.put('g');
        x.put('g');
        x.put('g');
        x.put('g');
        int[] all = {3, 2, 1, 5, 4, 6};
        for (int what = 0; what < 6; what++) {
            DUE.is("15 count " + what, x.count(what), all[what]);
        }
        DUE.is("15 what", x.count(6), -2);
        DUE.is("15 what", x.count(-1), -2);
        DUE.is("15 what", x.count(MIN), -2);
    }

    private static void whyShut() {
        GateRoads x = new GateRoads();
        x.road(0, 1, 30);
        DUE.is("16 at first", x.whyShut(0, 0), 0);
        DUE.is("16 it comes to 2880", x.whyShut(0, 2850), 0);
        DUE.is("16 it would be later", x.whyShut(0, 2851), 5);
        DUE.is("16 the last minute", x.whyShut(0, 2880), 5);
        x.open(0, 480, 600, 0);
        DUE.is("16 ahead of it", x.whyShut(0, 479), 2);
        DUE.is("16 its first minute", x.whyShut(0, 480), 0);
        DUE.is("16 its last minute", x.whyShut(0, 599), 0);
        DUE.is("16 behind it", x.whyShut(0, 600), 2);
        DUE.is("16 the next day", x.whyShut(0, 1440 + 599), 0);
        DUE.is("16 the next day", x.whyShut(0, 1440 + 600), 2);
        x.open(0, 480, 600, 1);
        DUE.is("16 strict", x.whyShut(0, 570), 0);
        DUE.is("16 strict", x.whyShut(0, 571), 3);
        x.more(0, 600, 620);
        DUE.is("16 strict by its own span", x.whyShut(0, 571), 3);
        DUE.is("16 strict in a short span", x.whyShut(0, 600), 3);
        x.more(0, 1420, 1440);
        DUE.is("16 strict ahead of midnight", x.whyShut(0, 1420), 3);
        DUE.is("16 no change", x.count(5), 5);
        DUE.is("16 the reason is not set", x.count(3), 0);
        DUE.is("16 road", x.whyShut(1, -1), -1);
        DUE.is("16 road", x.whyShut(-1, 0), -1);
        DUE.is("16 time", x.whyShut(0, -1), -2);
        DUE.is("16 time", x.whyShut(0, 2881), -2);
        DUE.is("16 time", x.whyShut(0, MIN), -2);
    }

    private static void whyShutOrder() {
        GateRoads x = new GateRoads();
        x.road(0, 1, 30);
        x.road(0, 1, 30);
        x.close(0, 100, 200);
        DUE.is("16 ahead of the closure", x.whyShut(0, 99), 0);
        DUE.is("16 in the closure", x.whyShut(0, 100), 4);
        DUE.is("16 in the closure", x.whyShut(0, 199), 4);
        DUE.is("16 behind the closure", x.whyShut(0, 200), 0);
        DUE.is("16 a closure is not of each day", x.whyShut(0, 1540), 0);
        DUE.is("16 another road's closure", x.whyShut(1, 150), 0);
        x.close(0, 2800, 2880);
        DUE.is("16 4 of 4, 5", x.whyShut(0, 2879), 4);
        DUE.is("16 no closure at 2880", x.whyShut(0, 2880), 5);
        x.open(0, 1400, 1440, 1);
        DUE.is("16 3 of 3, 4, 5", x.whyShut(0, 2879), 3);
        x.open(0, 0, 10, 1);
        DUE.is("16 2 of 2, 4, 5", x.whyShut(0, 2879), 2);
        DUE.is("16 at 2880 a day begins", x.whyShut(0, 2880), 3);
    }

    /** Two equal numbers are a room that is never open; the sets are of none, and of all that there can be. */
    private static void placeEdges() {
        int[][] rooms = {{0, 0, 0}, {1440, 1440, 1000}, {0, 1440, 0}, {1439, 1440, 1}, {0, 1, 999}, {720, 720, 500}};
        for (int[] room : rooms) {
            GateRoads x = new GateRoads();
            DUE.is("2 the limit at first", x.room(3, room[0], room[1], room[2]), 1000);
            for (int what = 0; what < 3; what++) {
                DUE.is("11 the room, " + what, x.ofPlace(3, what), room[what]);
                DUE.is("11 a room that was not changed, " + what, x.ofPlace(4, what), new int[] {0, 1440, 1000}[what]);
            }
            DUE.is("2 the previous limit", x.room(3, 0, 0, 7), room[2]);
        }
        GateRoads x = new GateRoads();
        for (int i = 0; i < 24; i++) {
            DUE.is("11 the roads from it", x.ofPlace(7, 3), (1 << i) - 1);
            DUE.is("11 the roads to it", x.ofPlace(0, 4), (1 << i) - 1);
            x.road(7, 0, 1);
        }
        DUE.is("11 all roads from it", x.ofPlace(7, 3), 0xffffff);
        DUE.is("11 all roads to it", x.ofPlace(0, 4), 0xffffff);
        for (int i = 0; i < 10; i++) {
            DUE.is("11 the travellers there", x.ofPlace(7, 5), (1 << i) - 1);
            x.traveller(7, 2880 - i);
        }
        DUE.is("11 all travellers, each at its own time", x.ofPlace(7, 5), 1023);
        x.go(9, 23);
        x.go(0, 23);
        DUE.is("11 one that went", x.ofPlace(0, 5), 512);
        DUE.is("11 one that could not", x.ofPlace(7, 5), 511);
    }

    /** NONE if there are not so many spans. */
    private static void roadEdges() {
        GateRoads x = new GateRoads();
        x.road(7, 0, 600);
        int[][] spans = {{0, 1440, -6, -6, -6, -6}, {1439, 1440, -6, -6, -6, -6}, {0, 1, 1439, 1440, -6, -6},
            {0, 1, 1, 1439, 1439, 1440}, {5, 6, -6, -6, -6, -6}, {0, 5, 5, 6, -6, -6}, {0, 5, 5, 6, 6, 1440}};
        int[] answers = {1, 1, 2, 3, 3, 2, 3};
        for (int i = 0; i < spans.length; i++) {
            int answer = i == 0 ? 1 : i == 1 ? x.open(0, 1439, 1440, 1) : i == 2 ? x.more(0, 0, 1) : i == 3 ? x.more(0, 1, 1439)
                : i == 4 ? x.open(0, 5, 6, 0) : i == 5 ? x.more(0, 0, 5) : x.more(0, 6, 1440);
            DUE.is("4, 5 the spans, " + i, answer, answers[i]);
            DUE.is("12 strict, " + i, x.ofRoad(0, 3), i >= 1 && i <= 3 ? 1 : 0);
            for (int what = 5; what <= 10; what++) {
                DUE.is("12 what " + what + ", " + i, x.ofRoad(0, what), spans[i][what - 5]);
            }
            DUE.is("12 how many, " + i, x.ofRoad(0, 4), spans[i][2] < 0 ? 1 : spans[i][4] < 0 ? 2 : 3);
        }
        DUE.is("12 no closure", x.ofRoad(0, 11), 0);
        for (int i = 1; i <= 20; i++) {
            x.close(0, 0, 1);
            DUE.is("12 its closures", x.ofRoad(0, 11), i);
        }
        DUE.is("12 not entered", x.ofRoad(0, 12), 0);
        for (int i = 0; i < 10; i++) {
            x.traveller(7, 1 + i);
            x.go(i, 0);
            DUE.is("12 entered", x.ofRoad(0, 12), i + 1);
        }
    }

    private static void closureEdges() {
        GateRoads x = new GateRoads();
        x.road(0, 1, 1);
        x.road(0, 1, 1);
        DUE.is("6 one", x.close(1, 0, 1), 0);
        DUE.is("7 the one", x.lift(0), 0);
        DUE.is("7 none", x.lift(0), -1);
        DUE.is("13 none", x.ofClosure(0, 0), -1);
        for (int i = 0; i < 20; i++) {
            x.close(i % 2, i, 2880 - i);
        }
        for (int i = 0; i < 20; i++) {
            DUE.is("13 its road", x.ofClosure(0, 0), i % 2);
            DUE.is("13 from", x.ofClosure(0, 1), i);
            DUE.is("13 to", x.ofClosure(0, 2), 2880 - i);
            DUE.is("13 the last one's", x.ofClosure(19 - i, 1), 19);
            DUE.is("7 the first one", x.lift(0), 19 - i);
            DUE.is("13 the number of the last is gone", x.ofClosure(19 - i, 1), -1);
        }
    }

    /** 7, 4 and 5 together are 1, whatever it did, and what was undone of it. */
    private static void travellerEdges() {
        GateRoads x = new GateRoads();
        x.road(6, 7, 600);
        x.road(7, 6, 1);
        x.traveller(6, 0);
        int came = 0;
        for (int i = 0; i < 4; i++) {
            x.stay(0, 100);
            DUE.is("14 when it came, having waited", x.ofTraveller(0, 2), came);
            x.go(0, i % 2);
            came = x.ofTraveller(0, 1);
            DUE.is("14 when it came, just then", x.ofTraveller(0, 2), came);
            DUE.is("14 where it is", x.ofTraveller(0, 0), 7 - i % 2);
            DUE.is("14 how many roads", x.ofTraveller(0, 3), i + 1);
            DUE.is("14 the minutes that it waited", x.ofTraveller(0, 4), 100 * (i + 1));
            DUE.is("14 the minutes on roads", x.ofTraveller(0, 5), new int[] {600, 601, 1201, 1202}[i]);
            DUE.is("14 all of its minutes", x.ofTraveller(0, 4) + x.ofTraveller(0, 5) + x.ofTraveller(0, 7), came);
            DUE.is("14 where it began", x.ofTraveller(0, 6), 6);
        }
        x.undo();
        DUE.is("14 all of its minutes, undone", x.ofTraveller(0, 4) + x.ofTraveller(0, 5), x.ofTraveller(0, 1));
        x.traveller(7, 2880);
        int[] last = {7, 2880, 2880, 0, 0, 0, 7, 2880};
        for (int what = 0; what < 8; what++) {
            DUE.is("14 at the last minute, " + what, x.ofTraveller(1, what), last[what]);
        }
    }

    private static void countEdges() {
        GateRoads x = Scene.full();
        int[] most = {24, 20, 10, 1, 80, 6};
        for (int what = 0; what < 6; what++) {
            DUE.is("15 the most, " + what, x.count(what), most[what]);
        }
        x.wipe();
        DUE.is("15 an empty pad", x.count(4), 0);
        while (x.undo() >= 0) {
            DUE.is("15 one less at each undo", x.count(2) < 10 ? 1 : 0, 1);
        }
        DUE.is("15 no change", x.count(5), 0);
        DUE.is("15 four travellers", x.count(2), 4);
        DUE.is("15 the reason", x.count(3), 1);
    }
}
