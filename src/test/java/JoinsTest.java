import java.util.ArrayList;
import java.util.List;

/** What joins two promises: what a change does to what is asked for afterwards, and orders like the methods of their own. */
final class JoinsTest {
    private static final Due DUE = new Due("JoinsTest");

    /** A call, and what it is. */
    record Step(String name, Scene.Call call) {
    }

    public static void main(String[] args) {
        askingChangesNothing();
        ordersLikeMethods();
        wrongOrdersLikeMethods();
        ordersSeeTheOrdersAhead();
        counters();
        reason();
        pad();
        waysThroughUndoAndSlots();
        travellersThroughRooms();
        DUE.end();
    }

    /** Three roads with closures, two travellers, a slot that differs, and four states in the history. */
    private static GateRoads small() {
        GateRoads x = new GateRoads();
        x.road(0, 1, 10);
        x.road(1, 2, 20);
        x.road(2, 0, 30);
        x.more(1, 1, 2);
        x.open(1, 480, 600, 1);
        x.close(0, 305, 320);
        x.save(1);
        x.room(1, 60, 1200, 200);
        x.traveller(0, 300);
        x.traveller(1, 460);
        x.undo();
        x.undo();
        x.traveller(0, 300);
        x.traveller(1, 460);
        return x;
    }

    private static int carryOut(GateRoads x, String text) {
        Scene.write(x, text);
        return x.carryOut();
    }

    private static List<Step> steps() {
        List<Step> steps = new ArrayList<>();
        steps.add(new Step("room", x -> x.room(0, 0, 303, 40)));
        steps.add(new Step("road", x -> x.road(0, 2, 90)));
        steps.add(new Step("open", x -> x.open(0, 310, 330, 0)));
        steps.add(new Step("more", x -> x.more(1, 440, 480)));
        steps.add(new Step("close", x -> x.close(1, 470, 500)));
        steps.add(new Step("lift", x -> x.lift(0)));
        steps.add(new Step("traveller", x -> x.traveller(2, 500)));
        steps.add(new Step("go", x -> x.go(0, 0)));
        steps.add(new Step("go that is refused", x -> x.go(1, 0)));
        steps.add(new Step("stay", x -> x.stay(1, 30)));
        steps.add(new Step("stay that is refused", x -> x.stay(1, 999)));
        steps.add(new Step("an order s", x -> carryOut(x, "s0:0700-0800!")));
        steps.add(new Step("an order x", x -> carryOut(x, "x1:400-500")));
        steps.add(new Step("an order g", x -> carryOut(x, "g0>0")));
        steps.add(new Step("an order w", x -> carryOut(x, "w1+5")));
        steps.add(new Step("a text with a fault", x -> carryOut(x, "x1:400-500;")));
        steps.add(new Step("undo", GateRoads::undo));
        steps.add(new Step("save", x -> x.save(0)));
        steps.add(new Step("restore 0", x -> x.restore(0)));
        steps.add(new Step("restore 1", x -> x.restore(1)));
        return steps;
    }

    /** What is answered about ways, from a few places and times. */
    private static String asked(GateRoads x) {
        StringBuilder asked = new StringBuilder();
        for (int place = 0; place < 3; place++) {
            int to = (place + 2) % 3;
            for (int time = 300; time <= 480; time += 90) {
                asked.append(' ').append(x.earliest(place, to, time)).append(' ').append(x.needed(place, to, time));
                asked.append(' ').append(x.latest(place, to, time + 60)).append(' ').append(x.reach(place, time, time + 99));
                asked.append(' ').append(x.way(place, to, time, 3));
            }
            asked.append(' ').append(x.arrives(0, place)).append(' ').append(x.arrives(1, place));
        }
        asked.append(' ').append(x.meet(0, 1, 0)).append(' ').append(x.meet(1, 0, 1)).append(' ').append(x.canStay(1));
        return asked.append(' ').append(x.whyShut(0, 310)).append(x.whyShut(1, 570)).toString();
    }

    private static String all(GateRoads x) {
        return asked(x) + Scene.told(x, false) + Scene.told(x, true);
    }

    /** Each two steps, one after the other, lead to the same, whether there is much asked for in between or not. */
    private static void askingChangesNothing() {
        for (Step first : steps()) {
            for (Step second : steps()) {
                GateRoads x = small();
                GateRoads y = small();
                asked(x);
                DUE.is(first.name, first.call.of(x), first.call.of(y));
                asked(x);
                DUE.is(first.name + ", " + second.name, second.call.of(x), second.call.of(y));
                DUE.is(first.name + ", " + second.name + ", all alike", all(x).equals(all(y)) ? 1 : 0, 1);
            }
        }
    }

    /** What undo and the slots give back, and the reason. */
    private static String left(GateRoads x) {
        return (asked(x) + Scene.told(x, false) + Scene.told(x, true)).replaceAll("count 5 .*", "");
    }

    private static void like(String text, int due, Scene.Call... methods) {
        GateRoads x = small();
        GateRoads y = small();
        int done = 0;
        for (Scene.Call method : methods) {
            done += method.of(y) >= 0 ? 1 : 0;
        }
        DUE.is("28 " + text, carryOut(x, text), due);
        DUE.is("28 the methods like " + text, done, due);
        DUE.is("28 all alike behind " + text, left(x).equals(left(y)) ? 1 : 0, 1);
        DUE.is("28 one change, " + text, x.undo(), 5);
        DUE.is("28 undone, " + text, left(x).replaceAll("count 3 .*", "").equals(left(small()).replaceAll("count 3 .*", ""))
            ? 1 : 0, 1);
    }

    private static void ordersLikeMethods() {
        like("s0:0500-0510", 1, x -> x.open(0, 300, 310, 0));
        like("s1:0000-2400!", 1, x -> x.open(1, 0, 1440, 1));
        like("s2:0800-0900,0500-0600!", 1, x -> x.open(2, 300, 360, 1) + x.more(2, 480, 540));
        like("s2:0800-0900,0600-0800,0500-0600", 1, x -> x.open(2, 480, 540, 0) + x.more(2, 300, 360) + x.more(2, 360, 480));
        like("x1:460-500", 1, x -> x.close(1, 460, 500));
        like("x2:0-2880;x2:0-2880", 2, x -> x.close(2, 0, 2880), x -> x.close(2, 0, 2880));
        like("g0>0", 1, x -> x.go(0, 0));
        like("w1+20;g1>1;g1>2", 3, x -> x.stay(1, 20), x -> x.go(1, 1), x -> x.go(1, 2));
        like("w0+5", 1, x -> x.stay(0, 5));
    }

    /** The order that returns an error is the last one, and does no more than its method does. */
    private static void wrongOrdersLikeMethods() {
        like("s3:0000-0001;w0+5", 0, x -> x.open(3, 0, 1, 0));
        like("s0:0001-0001;w0+5", 0, x -> x.open(0, 1, 1, 0));
        like("x3:0-1;w0+5", 0, x -> x.close(3, 0, 1));
        like("x0:5-5;w0+5", 0, x -> x.close(0, 5, 5));
        like("g2>0;w0+5", 0, x -> x.go(2, 0));
        like("g0>3;w0+5", 0, x -> x.go(0, 3));
        like("g0>1;w0+5", 0, x -> x.go(0, 1));
        like("g1>1;w0+5", 0, x -> x.go(1, 1));
        like("w2+5;w0+5", 0, x -> x.stay(2, 5));
        like("w0+0;w0+5", 0, x -> x.stay(0, 0));
        like("w0+1001;w0+5", 0, x -> x.stay(0, 1001));
        like("w1+999;w0+5", 0, x -> x.stay(1, 999));
        like("w0+5;g0>0;w0+5", 1, x -> x.stay(0, 5), x -> x.go(0, 0));
        like("w0+5;w0+996;w0+5", 1, x -> x.stay(0, 5), x -> x.stay(0, 996));
    }

    /** Each order finds what the ones ahead of it left. */
    private static void ordersSeeTheOrdersAhead() {
        GateRoads x = small();
        DUE.is("28 a road that an order shut", carryOut(x, "s0:0000-0001;g0>0"), 1);
        DUE.is("28 its reason", x.count(3), 2);
        DUE.is("28 a road that an order made strict", carryOut(x, "s0:0500-0509!;g0>0"), 1);
        DUE.is("28 its reason", x.count(3), 3);
        DUE.is("28 a road that an order closed", carryOut(x, "s0:0000-2400;x0:300-301;g0>0"), 2);
        DUE.is("28 its reason", x.count(3), 4);
        DUE.is("28 a road that it opens again", carryOut(x, "w0+1;g0>0;w0+1"), 3);
        DUE.is("28 the time then", x.ofTraveller(0, 1), 312);
        DUE.is("28 where it is then", carryOut(x, "g0>0;w0+1"), 0);
        DUE.is("28 its reason", x.count(3), 1);
        DUE.is("28 up to where it can wait", carryOut(x, "w0+100;w0+99;w0+1"), 2);
        DUE.is("28 its reason", x.count(3), 7);
        DUE.is("28 nothing of that is undone by itself", x.ofTraveller(0, 4), 201);
        DUE.is("29 as one change", x.undo() >= 0 ? x.ofTraveller(0, 4) : -9, 2);
    }

    private static void count(String what, GateRoads x, int entered, int roads, int waited, int onRoads, int there) {
        DUE.is(what + ", how often the road was entered", x.ofRoad(0, 12), entered);
        DUE.is(what + ", the roads that the traveller entered", x.ofTraveller(0, 3), roads);
        DUE.is(what + ", the minutes that it waited", x.ofTraveller(0, 4), waited);
        DUE.is(what + ", the minutes that it was on roads", x.ofTraveller(0, 5), onRoads);
        DUE.is(what + ", the travellers at place 1", x.ofPlace(1, 5), there);
        DUE.is(what + ", 7, 4 and 5 together", x.ofTraveller(0, 7) + waited + onRoads, x.ofTraveller(0, 1));
    }

    /** The counters go back with undo and restore, and forward by orders as by methods; no other change touches them. */
    private static void counters() {
        GateRoads x = new GateRoads();
        x.road(0, 1, 10);
        x.road(1, 0, 5);
        x.traveller(0, 100);
        x.traveller(0, 200);
        count("a new traveller", x, 0, 0, 0, 0, 0);
        x.stay(0, 3);
        x.go(0, 0);
        x.save(0);
        count("it went", x, 1, 1, 3, 10, 1);
        x.go(1, 0);
        count("the other one went, too", x, 2, 1, 3, 10, 3);
        x.open(0, 0, 1, 1);
        x.close(0, 0, 2880);
        x.room(1, 0, 0, 0);
        count("the road and the room were shut", x, 2, 1, 3, 10, 3);
        DUE.is("11 the roads of place 1", x.ofPlace(1, 3), 2);
        DUE.is("11 the roads to place 1, also if they are shut", x.ofPlace(1, 4), 1);
        DUE.is("12 its closures", x.ofRoad(0, 11), 1);
        DUE.is("28", carryOut(x, "g0>1;s0:0000-2400;x1:0-1;x0:0-1"), 4);
        count("it went back by an order", x, 2, 2, 3, 15, 2);
        DUE.is("12 its closures", x.ofRoad(0, 11), 2);
        DUE.is("12 the other road's closures", x.ofRoad(1, 11), 1);
        DUE.is("28 it is closed", carryOut(x, "g0>0"), 0);
        count("it was refused", x, 2, 2, 3, 15, 2);
        DUE.is("7 lift", x.lift(0), 2);
        DUE.is("12 its closures", x.ofRoad(0, 11), 1);
        DUE.is("28", carryOut(x, "w0+4"), 1);
        count("it waited by an order", x, 2, 2, 7, 15, 2);
        x.restore(0);
        count("restored", x, 1, 1, 3, 10, 1);
        x.undo();
        count("the restore undone", x, 2, 2, 7, 15, 2);
        x.undo();
        count("the order undone", x, 2, 2, 3, 15, 2);
    }

    /** It is set by what is REFUSED alone, and stays through all else. */
    private static void reason() {
        GateRoads x = small();
        DUE.is("15 the reason at first", x.count(3), 0);
        x.go(0, 1);
        DUE.is("9 it leads from elsewhere", x.count(3), 1);
        for (Step step : steps()) {
            GateRoads y = small();
            y.go(0, 1);
            step.call.of(y);
            boolean refused = step.name.equals("stay that is refused");
            DUE.is("15 the reason behind " + step.name, y.count(3), refused ? 6 : 1);
        }
        DUE.is("16 whyShut tells another one", x.whyShut(1, 0), 2);
        DUE.is("15 and does not set it", x.count(3), 1);
        x.stay(1, 141);
        DUE.is("10 it waits as long", x.ofTraveller(1, 1), 601);
        DUE.is("9 behind the span", x.go(1, 1), -5);
        DUE.is("15 the latest", x.count(3), 2);
        x.undo();
        DUE.is("29 the reason stays", x.count(3), 2);
        x.restore(1);
        DUE.is("31 the reason stays", x.count(3), 2);
        DUE.is("28 an order of a traveller that there is not", carryOut(x, "g0>0"), 0);
        DUE.is("15 the reason stays", x.count(3), 2);
    }

    /** The pad and its fault change by put, wipe and carryOut alone. */
    private static void pad() {
        for (Step step : steps()) {
            boolean text = step.name.contains("order") || step.name.contains("text");
            for (int i = 0; i < 2 && !text; i++) {
                GateRoads x = small();
                Scene.write(x, i == 0 ? "w0+5;" : "w0+5");
                step.call.of(x);
                DUE.is("15 the pad behind " + step.name, x.count(4), i == 0 ? 5 : 4);
                DUE.is("27 its fault behind " + step.name, x.fault(), i == 0 ? 5 : -6);
                DUE.is("28 whether it is carried out behind " + step.name, x.carryOut() < 0 ? 1 : 0, i == 0 ? 1 : 0);
                DUE.is("15 the pad then", x.count(4), i == 0 ? 5 : 0);
            }
        }
        GateRoads x = small();
        Scene.write(x, "w0+5,");
        DUE.is("27 the ,", x.fault(), 4);
        int changes = x.count(5);
        DUE.is("28 it has a fault", x.carryOut(), -3);
        DUE.is("28 then it stays", x.count(4), 5);
        DUE.is("28 nor is it a change", x.count(5), changes);
        DUE.is("25 behind it", x.put(';'), 6);
        DUE.is("25 a wrong code", x.put(' '), -2);
        DUE.is("27 still the first one", x.fault(), 4);
        DUE.is("26", x.wipe(), 6);
        DUE.is("27 an empty pad", x.fault(), 0);
        DUE.is("28 an empty pad", x.carryOut(), -3);
        DUE.is("25 from its beginning", x.put('w'), 1);
        DUE.is("27 it ends too early", x.fault(), 1);
        x.put(Scene.characters("0+5"));
        DUE.is("28 and now it does not", x.carryOut(), 1);
        DUE.is("27 the pad is empty", x.fault(), 0);
        DUE.is("29 undo leaves it empty", x.undo() >= 0 ? x.count(4) : -9, 0);
    }

    /** Ways are of what there is now. */
    private static void waysThroughUndoAndSlots() {
        GateRoads x = new GateRoads();
        x.road(0, 1, 100);
        DUE.is("17", x.earliest(0, 1, 0), 100);
        x.save(0);
        x.road(0, 1, 50);
        DUE.is("17 by the new road", x.earliest(0, 1, 0), 50);
        DUE.is("19 the new road", x.way(0, 1, 0, 1), 1);
        x.undo();
        DUE.is("17 without it", x.earliest(0, 1, 0), 100);
        DUE.is("21 the old road is needed", x.needed(0, 1, 0), 1);
        x.road(0, 1, 60);
        DUE.is("17 by another one", x.earliest(0, 1, 0), 60);
        DUE.is("28", carryOut(x, "s1:0010-0100!"), 1);
        DUE.is("17 never: it is too long to be left in its span", x.earliest(0, 1, 0), 100);
        DUE.is("28", carryOut(x, "x0:0-30;s1:0010-0110"), 2);
        DUE.is("17 at the span's beginning", x.earliest(0, 1, 0), 70);
        DUE.is("18 by the old road, as it is", x.latest(0, 1, 130), 69);
        x.undo();
        DUE.is("18 undone", x.latest(0, 1, 130), 30);
        x.restore(0);
        DUE.is("17 restored", x.earliest(0, 1, 0), 100);
        DUE.is("20 restored", x.reach(0, 0, 99), 1);
        x.undo();
        x.undo();
        DUE.is("17 the span undone", x.earliest(0, 1, 0), 60);
        x.traveller(0, 10);
        x.traveller(1, 10);
        DUE.is("22", x.meet(0, 1, 0), 70);
        x.stay(0, 5);
        DUE.is("22 later", x.meet(0, 1, 0), 75);
        DUE.is("23 later", x.arrives(0, 1), 75);
        x.undo();
        DUE.is("22 undone", x.meet(1, 0, 0), 70);
        DUE.is("23 undone", x.arrives(0, 1), 70);
    }

    /** A room that changes is the one that counts, for those, too, who are there and have waited. */
    private static void travellersThroughRooms() {
        GateRoads x = new GateRoads();
        x.road(0, 1, 10);
        x.traveller(0, 100);
        x.stay(0, 50);
        DUE.is("24", x.canStay(0), 950);
        x.room(0, 0, 1440, 60);
        DUE.is("24 less is left", x.canStay(0), 10);
        DUE.is("17 one who comes just then has all of it", x.earliest(0, 1, 150), 160);
        x.open(0, 205, 300, 0);
        DUE.is("23 it cannot wait so long", x.arrives(0, 1), -6);
        DUE.is("17 one who comes just then can", x.earliest(0, 1, 150), 215);
        x.room(0, 0, 1440, 40);
        DUE.is("24 it waited longer than one may", x.canStay(0), 0);
        DUE.is("10 not a minute more", x.stay(0, 1), -5);
        DUE.is("10 the reason", x.count(3), 7);
        x.room(0, 0, 150, 1000);
        DUE.is("24 the room is shut", x.canStay(0), 0);
        DUE.is("10 not a minute more", x.stay(0, 1), -5);
        DUE.is("10 the reason", x.count(3), 6);
        x.room(0, 150, 205, 105);
        DUE.is("24 up to when it shuts", x.canStay(0), 55);
        DUE.is("23 the road opens just then", x.arrives(0, 1), 215);
        DUE.is("10 as long", x.stay(0, 55), 205);
        DUE.is("9 and off", x.go(0, 0), 215);
        DUE.is("14 when it came", x.ofTraveller(0, 2), 215);
        DUE.is("24 it has not waited there", x.canStay(0), 1000);
    }
}
