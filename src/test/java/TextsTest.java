/** Promises 25 to 28: put, wipe, fault, carryOut. */
final class TextsTest {
    private static final Due DUE = new Due("TextsTest");

    public static void main(String[] args) {
        put();
        wipe();
        numberFaults();
        clockFaults();
        orderFaults();
        carryOut();
        carryOutSpans();
        carryOutStops();
        fullPad();
        DUE.end();
    }

    private static void fault(String text, int want) {
        GateRoads x = new GateRoads();
        Scene.write(x, text);
        DUE.is("27 " + text, x.fault(), want);
        DUE.is("28 " + text, x.carryOut(), want == -6 ? 0 : -3);
        DUE.is("28 the pad of " + text, x.count(4), want == -6 ? 0 : text.length());
        DUE.is("28 a change by " + text, x.count(5), want == -6 ? 1 : 0);
    }

    private static void put() {
        GateRoads x = new GateRoads();
        DUE.is("25 none", x.put(0), -2);
        DUE.is("25 one", x.put(33), 1);
        DUE.is("25 one", x.put(126), 2);
        DUE.is("25 a code of 32", x.put(32), -2);
        DUE.is("25 a code of 127", x.put(127), -2);
        DUE.is("25 none at the end", x.put('a' << 8), -2);
        DUE.is("25 none in between", x.put((long) 'a' << 16 | 'a'), -2);
        DUE.is("25 a bit far above", x.put(1L << 63 | 'a'), -2);
        DUE.is("25 a bit just above", x.put(1L << 16 | 'a'), -2);
        DUE.is("25 a bad code above", x.put(1L << 8 | 'a'), -2);
        DUE.is("25 all bits", x.put(-1), -2);
        DUE.is("25 a code of 255 at the top", x.put(Scene.characters("abcdefgh") | 255L << 56), -2);
        DUE.is("25 errors change nothing", x.count(4), 2);
        DUE.is("25 eight", x.put(Scene.characters("abcdefgh")), 10);
        DUE.is("25 no change", x.count(5), 0);
        for (int length = 18; length <= 74; length += 8) {
            DUE.is("25 up to " + length, x.put(Scene.characters("abcdefgh")), length);
        }
        DUE.is("25 81", x.put(Scene.characters("abcdefg")), -4);
        DUE.is("25 BAD_VALUE ahead of TOO_MANY", x.put(Scene.characters("abcdef ")), -2);
        DUE.is("25 80", x.put(Scene.characters("abcdef")), 80);
        DUE.is("25 81", x.put('a'), -4);
        DUE.is("25 BAD_VALUE ahead of TOO_MANY", x.put(0), -2);
        DUE.is("25 still 80", x.count(4), 80);
    }

    private static void wipe() {
        GateRoads x = new GateRoads();
        DUE.is("26 empty", x.wipe(), 0);
        Scene.write(x, "w0+5;w0+");
        DUE.is("26 eight", x.wipe(), 8);
        DUE.is("26 empty then", x.wipe(), 0);
        DUE.is("26 empty then", x.count(4), 0);
        DUE.is("26 no change", x.count(5), 0);
        Scene.write(x, "w0+5");
        DUE.is("26 nothing of the old text", x.fault(), -6);
    }

    private static void numberFaults() {
        fault("x0:0-0", -6);
        fault("x2880:2880-2880", -6);
        fault("x2881:0-0", 4);
        fault("x2890:0-0", 4);
        fault("x2900:0-0", 4);
        fault("x2799:0-0", -6);
        fault("x3000:0-0", 4);
        fault("x300:0-0", -6);
        fault("x999:0-0", -6);
        fault("x9990:0-0", 4);
        fault("x1000:0-0", -6);
        fault("x10000:0-0", 5);
        fault("x00:0-0", 2);
        fault("x01:0-0", 2);
        fault("x0:01-0", 4);
        fault("x0:0-01", 6);
        fault("x0:0-2881", 8);
        fault("x:0-0", 1);
        fault("x0:-0", 3);
        fault("x0:0-", 5);
        fault("x0:0", 4);
        fault("x0", 2);
        fault("x", 1);
        fault("x0-0:0", 2);
        fault("x0:0-0-", 6);
        fault("x0:0-0;", 7);
        fault("x1,0:0-0", 2);
    }

    private static void clockFaults() {
        fault("s0:0000-2400", -6);
        fault("s0:2359-1959", -6);
        fault("s0:3000-2400", 3);
        fault("s0:2500-2400", 4);
        fault("s0:2360-2400", 5);
        fault("s0:2410-2400", 5);
        fault("s0:2401-2400", 6);
        fault("s0:0060-2400", 5);
        fault("s0:1950-1960", 10);
        fault("s0:000-2400", 6);
        fault("s0:00000-2400", 7);
        fault("s0:00:00-2400", 5);
        fault("s0:0000-240", 11);
        fault("s0:0000-24000", 12);
        fault("s0:0000", 7);
        fault("s0:0000-", 8);
        fault("s0:", 3);
        fault("s0", 2);
        fault("s", 1);
        fault("s0!", 2);
    }

    private static void orderFaults() {
        fault("", 0);
        fault("a", 0);
        fault(";", 0);
        fault("S0:0000-0100", 0);
        fault("g0>0", -6);
        fault("g9>2880", -6);
        fault("g10>0", 2);
        fault("g>0", 1);
        fault("g0+0", 2);
        fault("g0>", 3);
        fault("g0>0!", 4);
        fault("g0", 2);
        fault("g", 1);
        fault("g0>05", 4);
        fault("w9+2880", -6);
        fault("w0+2881", 6);
        fault("w0>5", 2);
        fault("w0+-5", 3);
        fault("w", 1);
        fault("s0:0000-0100!", -6);
        fault("s0:0000-0100!!", 13);
        fault("s0:0000-0100!,0200-0300", 13);
        fault("s0:0000-0100,0200-0300", -6);
        fault("s0:0000-0100,0200-0300,0400-0500", -6);
        fault("s0:0000-0100,0200-0300,0400-0500!", -6);
        fault("s0:0000-0100,0200-0300,0400-0500,0600-0700", 32);
        fault("s0:0000-0100,", 13);
        fault("s0:0000-0100,!", 13);
        fault("s0:0000-0100;", 13);
        fault("s0:0000-0100!;g0>0", -6);
        fault("s0:0000-0100!g0>0", 13);
        fault("g0>0;w0+1;x1:2-3;s0:0000-0100", -6);
        fault("g0>0;;w0+1", 5);
        fault("g0>0;w0+1;q", 10);
        fault("g0>0w0+1", 4);
    }

    private static void carryOut() {
        GateRoads x = new GateRoads();
        x.road(0, 1, 20);
        x.traveller(0, 480);
        Scene.write(x, "w0+10;g0>0;w0+5;x0:600-700;x0:2879-2880");
        DUE.is("28 five", x.carryOut(), 5);
        DUE.is("28 its time", x.ofTraveller(0, 1), 515);
        DUE.is("28 its place", x.ofTraveller(0, 0), 1);
        DUE.is("28 it waited", x.ofTraveller(0, 4), 15);
        DUE.is("28 entered", x.ofRoad(0, 12), 1);
        DUE.is("28 closures", x.count(1), 2);
        DUE.is("28 a closure", x.ofClosure(0, 1), 600);
        DUE.is("28 closed then", x.whyShut(0, 699), 4);
        DUE.is("28 an empty pad", x.count(4), 0);
        DUE.is("28 one change", x.count(5), 3);
        DUE.is("28 ways know of it", x.earliest(0, 1, 590), 610);
        DUE.is("28 ways know of it", x.earliest(0, 1, 600), 720);
        DUE.is("28 undone", x.undo(), 2);
        DUE.is("28 all undone", x.ofTraveller(0, 1), 480);
        DUE.is("28 all undone", x.count(1), 0);
        DUE.is("28 the pad is not", x.count(4), 0);
        DUE.is("28 an empty text", x.carryOut(), -3);
        DUE.is("28 no change", x.count(5), 2);
    }

    private static void carryOutSpans() {
        GateRoads x = new GateRoads();
        x.road(0, 1, 20);
        Scene.write(x, "s0:2300-2400,0000-0100,1200-1230!");
        DUE.is("28 one", x.carryOut(), 1);
        int[] spans = {1, 3, 0, 60, 720, 750, 1380, 1440};
        for (int i = 0; i < spans.length; i++) {
            DUE.is("28 spans in the order of the day", x.ofRoad(0, 3 + i), spans[i]);
        }
        Scene.write(x, "s0:0900-1000,0800-0900");
        DUE.is("28 side by side", x.carryOut(), 1);
        Scene.write(x, "s0:0800-0900,0900-1000");
        DUE.is("28 side by side", x.carryOut(), 1);
        DUE.is("28 not strict", x.ofRoad(0, 3), 0);
        DUE.is("28 two", x.ofRoad(0, 4), 2);
        DUE.is("28 no third", x.ofRoad(0, 9), -6);
        String[] bad = {"s0:0800-0800!", "s0:0900-0800!", "s0:2400-2400!", "s0:0100-0200,0159-0300!", "s1:0100-0200!",
            "s0:0000-0100,0200-0300,0030-0040!", "s2880:0100-0200!", "s0:0000-0100,0300-0200!"};
        for (String text : bad) {
            Scene.write(x, text);
            DUE.is("28 none is carried out of " + text, x.carryOut(), 0);
            DUE.is("28 the pad is empty after " + text, x.count(4), 0);
            DUE.is("28 nothing of it is done, " + text, x.ofRoad(0, 5), 480);
            DUE.is("28 nothing of it is done, " + text, x.ofRoad(0, 3), 0);
        }
        DUE.is("28 changes all the same", x.count(5), 6);
        DUE.is("28 the reason stays", x.count(3), 0);
    }

    private static void carryOutStops() {
        GateRoads x = new GateRoads();
        x.road(0, 1, 20);
        x.traveller(0, 100);
        Scene.write(x, "w0+5;g0>0;g0>0;x0:1-2");
        DUE.is("28 up to the one that is refused", x.carryOut(), 2);
        DUE.is("28 what was carried out stays", x.ofTraveller(0, 1), 125);
        DUE.is("28 what comes behind it is not", x.count(1), 0);
        DUE.is("28 the reason is set", x.count(3), 1);
        DUE.is("28 the pad is empty", x.wipe(), 0);
        x.road(1, 2, 5);
        x.traveller(1, 7);
        Scene.write(x, "g1>1");
        DUE.is("28 traveller 1 goes", x.carryOut(), 1);
        DUE.is("28 traveller 1 is there", x.ofTraveller(1, 0), 2);
        Scene.write(x, "g0>1");
        DUE.is("28 traveller 0 goes along road 1", x.carryOut(), 1);
        DUE.is("28 traveller 0 is there", x.ofTraveller(0, 1), 130);
        x.undo();
        x.undo();
        x.undo();
        String[] none = {"w0+0;w0+1", "w0+1001;w0+1", "w1+1;w0+1", "g1>0;w0+1", "g0>2;w0+1", "x2:0-1;w0+1",
            "x0:5-5;w0+1", "x0:2880-2880;w0+1", "s2:0000-0100;w0+1"};
        for (String text : none) {
            Scene.write(x, text);
            DUE.is("28 none of " + text, x.carryOut(), 0);
            DUE.is("28 nothing is done of " + text, x.ofTraveller(0, 1), 125);
        }
        for (int i = 0; i < 19; i++) {
            x.close(0, 0, 1);
        }
        Scene.write(x, "x0:5-6;x0:7-8;w0+1");
        DUE.is("28 the 21st closure", x.carryOut(), 1);
        DUE.is("28 20 closures", x.count(1), 20);
        Scene.write(x, "w0+1000");
        DUE.is("28 too long", x.carryOut(), 1);
        Scene.write(x, "w0+1");
        DUE.is("28 too long", x.carryOut(), 0);
        DUE.is("28 its reason", x.count(3), 7);
    }

    private static void fullPad() {
        GateRoads x = new GateRoads();
        x.traveller(0, 0);
        Scene.write(x, "w0+1;w0+1;w0+1;w0+1;w0+1;w0+1;w0+1;w0+1;w0+1;w0+1;w0+1;w0+1;w0+1;w0+1;w0+1;w0+10");
        DUE.is("27 80 characters", x.count(4), 80);
        DUE.is("27 80 characters", x.fault(), -6);
        DUE.is("28 16 orders", x.carryOut(), 16);
        DUE.is("28 16 orders", x.ofTraveller(0, 1), 25);
        DUE.is("28 one change", x.count(5), 2);
        Scene.write(x, "w0+1;w0+1;w0+1;w0+1;w0+1;w0+1;w0+1;w0+1;w0+1;w0+1;w0+1;w0+1;w0+1;w0+1;w0+1;w0+1;");
        DUE.is("27 too early an end at 80", x.fault(), 80);
    }
}
