/** The edges of promise 28: the numbers and spans of its orders, the first and the last that is not carried out. */
final class OrdersTest {
    private static final Due DUE = new Due("OrdersTest");

    public static void main(String[] args) {
        spans();
        spansThatMeet();
        closures();
        travellersAndRoads();
        whichIsTheLast();
        asManyAsThereCanBe();
        DUE.end();
    }

    /** Three roads, of which each has two spans and is strict, and ten travellers at place 0 at 500. */
    private static GateRoads roads() {
        GateRoads x = new GateRoads();
        for (int road = 0; road < 3; road++) {
            x.road(0, 1, 10);
            x.open(road, 480, 600, 1);
            x.more(road, 700, 800);
        }
        for (int traveller = 0; traveller < 10; traveller++) {
            x.traveller(0, 500);
        }
        return x;
    }

    private static void spans(String text, int... due) {
        GateRoads x = roads();
        Scene.write(x, text);
        DUE.is("28 " + text, x.carryOut(), 1);
        for (int i = 0; i < due.length; i++) {
            DUE.is("28 " + text + ", what " + (3 + i), x.ofRoad(2, 3 + i), due[i]);
        }
        DUE.is("28 another road", x.ofRoad(1, 6), 600);
        DUE.is("28 all of it is one change", x.undo(), 5);
        DUE.is("28 undone", x.ofRoad(2, 6), 600);
    }

    private static void spans() {
        spans("s2:0000-2400", 0, 1, 0, 1440, -6, -6, -6, -6);
        spans("s2:0000-0001!", 1, 1, 0, 1, -6, -6, -6, -6);
        spans("s2:2359-2400", 0, 1, 1439, 1440, -6, -6, -6, -6);
        spans("s2:0000-0001,2359-2400!", 1, 2, 0, 1, 1439, 1440, -6, -6);
        spans("s2:1200-2400,0000-1200", 0, 2, 0, 720, 720, 1440, -6, -6);
        spans("s2:0200-0300,0000-0100,0100-0200", 0, 3, 0, 60, 60, 120, 120, 180);
        spans("s2:0959-1001,0001-0002,1001-1002!", 1, 3, 1, 2, 599, 601, 601, 602);
        spans("s2:0100-0200,0000-0100,0200-0300", 0, 3, 0, 60, 60, 120, 120, 180);
    }

    /** BAD_VALUE if a span does not end behind its beginning, or a minute would be in two spans. */
    private static void spansThatMeet() {
        String[] bad = {"0100-0100", "0100-0059", "2400-0000", "2400-2400", "0000-0000", "0100-0200,0159-0300",
            "0159-0300,0100-0200", "0100-0200,0100-0200", "0000-2400,0000-0001", "0000-2400,2359-2400",
            "0100-0400,0200-0300", "0200-0300,0100-0400", "0100-0200,0300-0400,0159-0300", "0100-0200,0300-0400,0200-0301",
            "0300-0400,0100-0200,0159-0201", "0100-0200,0300-0400,0500-0500", "0100-0200,0300-0300,0400-0500",
            "0100-0100,0200-0300,0400-0500", "0100-0200,0150-0300,0400-0500", "0100-0200,0400-0500,0459-0501",
            "0100-0200,0300-0400,0350-0351"};
        for (String hours : bad) {
            String[] texts = {"s2:" + hours, "s2:" + hours + "!", "w0+1;s2:" + hours + ";w0+1"};
            for (int i = 0; i < texts.length; i++) {
                GateRoads x = roads();
                x.open(2, 480, 600, 0);
                Scene.write(x, texts[i]);
                DUE.is("28 " + texts[i], x.carryOut(), i == 2 ? 1 : 0);
                DUE.is("28 nothing of it is done, " + texts[i], x.ofRoad(2, 3), 0);
                DUE.is("28 nothing of it is done, " + texts[i], x.ofRoad(2, 4), 1);
                DUE.is("28 nothing of it is done, " + texts[i], x.ofRoad(2, 5), 480);
                DUE.is("28 nothing of it is done, " + texts[i], x.ofRoad(2, 6), 600);
                DUE.is("28 nor of what is behind it, " + texts[i], x.ofTraveller(0, 1), i == 2 ? 501 : 500);
                DUE.is("28 the pad is empty, " + texts[i], x.count(4), 0);
                DUE.is("28 no reason, " + texts[i], x.count(3), 0);
            }
        }
    }

    private static void carriedOut(String text, int due) {
        GateRoads x = roads();
        Scene.write(x, text);
        DUE.is("27 " + text, x.fault(), -6);
        DUE.is("28 " + text, x.carryOut(), due);
        DUE.is("28 the pad is empty behind " + text, x.wipe(), 0);
        DUE.is("28 one change by " + text, x.count(5), 6);
    }

    private static void closures() {
        carriedOut("x0:0-1", 1);
        carriedOut("x2:2879-2880", 1);
        carriedOut("x2:0-2880", 1);
        carriedOut("x3:0-1", 0);
        carriedOut("x2880:0-1", 0);
        carriedOut("x0:0-0", 0);
        carriedOut("x0:1-0", 0);
        carriedOut("x0:2880-2880", 0);
        carriedOut("x0:2880-0", 0);
        GateRoads x = roads();
        Scene.write(x, "x1:5-7;x0:0-2880");
        x.carryOut();
        DUE.is("28 the first closure", x.ofClosure(0, 0), 1);
        DUE.is("28 the first closure", x.ofClosure(0, 1), 5);
        DUE.is("28 the first closure", x.ofClosure(0, 2), 7);
        DUE.is("28 the second closure", x.ofClosure(1, 2), 2880);
        for (int closure = 2; closure < 18; closure++) {
            x.close(0, 0, 1);
        }
        Scene.write(x, "x0:0-1;x1:1-2;x2:2-3;x2:3-4");
        DUE.is("28 up to 20 closures", x.carryOut(), 2);
        DUE.is("28 20 closures", x.count(1), 20);
        DUE.is("28 the 20th", x.ofClosure(19, 0), 1);
        Scene.write(x, "x0:0-1");
        DUE.is("28 not one more", x.carryOut(), 0);
        DUE.is("28 all of one text", x.undo(), 5);
        DUE.is("28 all of one text", x.undo(), 4);
        DUE.is("28 all of one text", x.count(1), 18);
    }

    private static void travellersAndRoads() {
        carriedOut("g9>2", 1);
        carriedOut("g0>3", 0);
        carriedOut("g0>24", 0);
        carriedOut("g0>2880", 0);
        carriedOut("s3:0000-2400", 0);
        carriedOut("s24:0000-2400", 0);
        carriedOut("s2880:0000-2400", 0);
        carriedOut("w9+1", 1);
        carriedOut("w9+1000", 1);
        carriedOut("w9+1001", 0);
        carriedOut("w9+0", 0);
        carriedOut("w9+2880", 0);
        carriedOut("w0+999;w0+1", 2);
        carriedOut("w0+999;w0+2", 1);
        GateRoads x = roads();
        Scene.write(x, "w7+3;g7>1");
        x.carryOut();
        int[] seven = {1, 513, 513, 1, 3, 10, 0, 500};
        for (int what = 0; what < 8; what++) {
            DUE.is("28 traveller 7, " + what, x.ofTraveller(7, what), seven[what]);
            DUE.is("28 traveller 6, " + what, x.ofTraveller(6, what), new int[] {0, 500, 500, 0, 0, 0, 0, 500}[what]);
        }
        x = new GateRoads();
        Scene.write(x, "w0+1");
        DUE.is("28 no traveller", x.carryOut(), 0);
        Scene.write(x, "s0:0000-2400");
        DUE.is("28 no road", x.carryOut(), 0);
        Scene.write(x, "x0:0-1");
        DUE.is("28 no road", x.carryOut(), 0);
        Scene.write(x, "g0>0");
        DUE.is("28 neither", x.carryOut(), 0);
        DUE.is("28 four changes", x.count(5), 4);
    }

    /** Up to the first one that returns an error: at the beginning, in between, at the end, and none. */
    private static void whichIsTheLast() {
        for (int wrong = 0; wrong <= 5; wrong++) {
            StringBuilder text = new StringBuilder();
            for (int order = 0; order < 5; order++) {
                text.append(order == 0 ? "" : ";").append(order == wrong ? "w0+0" : "w0+" + (1 << order));
            }
            GateRoads x = roads();
            Scene.write(x, text.toString());
            DUE.is("28 " + text, x.carryOut(), wrong);
            DUE.is("28 the minutes of " + text, x.ofTraveller(0, 4), (1 << wrong) - 1);
            DUE.is("28 one change by " + text, x.undo(), 5);
            DUE.is("28 undone " + text, x.ofTraveller(0, 4), 0);
        }
    }

    private static void asManyAsThereCanBe() {
        GateRoads x = roads();
        Scene.write(x, "w0+1;w1+1;w2+1;w3+1;w4+1;w5+1;w6+1;w7+1;w8+1;w9+1;w0+1;w1+1;w2+1;w3+1;w4+1;w5+10");
        DUE.is("28 80 characters", x.count(4), 80);
        DUE.is("28 16 orders", x.carryOut(), 16);
        DUE.is("28 the first one's", x.ofTraveller(0, 4), 2);
        DUE.is("28 the last one", x.ofTraveller(5, 4), 11);
        DUE.is("28 one that came once", x.ofTraveller(9, 4), 1);
        DUE.is("28 one change", x.undo(), 5);
        DUE.is("28 undone", x.ofTraveller(5, 4), 0);
        Scene.write(x, "s0:0000-0001,0002-0003,0004-0005!;s1:0000-0001,0002-0003,0004-0005!");
        DUE.is("28 six spans", x.carryOut(), 2);
        DUE.is("28 the last span", x.ofRoad(1, 10), 5);
    }
}
