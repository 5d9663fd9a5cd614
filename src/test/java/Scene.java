/** The objects that tests begin with, texts for a pad, and all that can be read of an object. */
final class Scene {
    /** The texts that stand on the pads of some() and full(). */
    static final String SOME_TEXT = "g0>1;w1+5";
    static final String FULL_TEXT = "w9+1;w9+1;w9+1;w9+1;w9+1;w9+1;w9+1;w9+1;w9+1;w9+1;w9+1;w9+1;w9+1;w9+1;w9+1;w9+10";

    private Scene() {
    }

    /** A call of an object, and what it answers. */
    interface Call {
        int of(GateRoads x);
    }

    /** What makes an object; each time it is asked, one that is alike. */
    interface Maker {
        GateRoads make();
    }

    static GateRoads empty() {
        return new GateRoads();
    }

    /** Three roads, three closures, two travellers, both slots, a text, the reason 7, and a full history. */
    static GateRoads some() {
        GateRoads x = new GateRoads();
        x.road(0, 1, 10);
        x.road(1, 2, 20);
        x.road(2, 0, 30);
        x.open(1, 480, 600, 1);
        x.close(0, 100, 200);
        x.close(1, 500, 510);
        x.close(2, 5, 6);
        x.room(1, 60, 1200, 50);
        x.traveller(0, 300);
        x.save(0);
        x.traveller(1, 700);
        x.more(1, 705, 800);
        x.stay(0, 5);
        x.go(0, 0);
        x.save(1);
        x.stay(1, 4);
        x.stay(1, 47);
        write(x, SOME_TEXT);
        return x;
    }

    /** All of which there can be no more: roads, spans of road 0, closures, travellers, characters, states. */
    static GateRoads full() {
        GateRoads x = new GateRoads();
        for (int road = 0; road < 24; road++) {
            x.road(road % 8, (road + 1 + road / 8) % 8, 10 + road);
        }
        x.open(0, 60, 120, 1);
        x.more(0, 300, 360);
        x.save(0);
        x.more(0, 180, 240);
        for (int closure = 0; closure < 20; closure++) {
            x.close(closure % 5, 100 * closure, 100 * closure + 50);
        }
        for (int traveller = 0; traveller < 10; traveller++) {
            x.traveller(traveller % 8, 20 * traveller);
        }
        x.save(1);
        x.go(9, 0);
        write(x, FULL_TEXT);
        return x;
    }

    static long characters(String text) {
        long number = 0;
        for (int i = 0; i < text.length(); i++) {
            number = number << 8 | text.charAt(i);
        }
        return number;
    }

    static void write(GateRoads x, String text) {
        for (int i = 0; i < text.length(); i += 8) {
            x.put(characters(text.substring(i, Math.min(i + 8, text.length()))));
        }
    }

    static GateRoads written(String text) {
        GateRoads x = new GateRoads();
        write(x, text);
        return x;
    }

    /** All that can be read of the roads, or of all else: in two parts, as an object answers 512 calls alone. */
    static String told(GateRoads x, boolean roads) {
        StringBuilder told = new StringBuilder();
        if (roads) {
            for (int road = 0; road < x.count(0); road++) {
                tell(told.append("\nroad ").append(road), road, 12, x::ofRoad);
            }
            return told.toString();
        }
        for (int what = 0; what <= 5; what++) {
            told.append("\ncount ").append(what).append(' ').append(x.count(what));
        }
        told.append("\nfault ").append(x.fault());
        for (int place = 0; place < 8; place++) {
            tell(told.append("\nplace ").append(place), place, 5, x::ofPlace);
        }
        for (int closure = 0; closure < x.count(1); closure++) {
            tell(told.append("\nclosure ").append(closure), closure, 2, x::ofClosure);
        }
        for (int traveller = 0; traveller < x.count(2); traveller++) {
            tell(told.append("\ntraveller ").append(traveller), traveller, 7, x::ofTraveller);
        }
        return told.toString();
    }

    private interface Reading {
        int of(int number, int what);
    }

    private static void tell(StringBuilder told, int number, int most, Reading reading) {
        for (int what = 0; what <= most; what++) {
            told.append(' ').append(reading.of(number, what));
        }
    }
}
