/** The edges of promises 28 to 31: what records a state, the sixth and the seventh, and what undo and slots leave. */
final class HistoryTest {
    private static final Due DUE = new Due("HistoryTest");
    private static final int NONE = -6;
    /** Six changes, one of each of six methods. */
    private static final Scene.Call[] SIX = {x -> x.go(0, 0), x -> x.lift(0), x -> x.room(1, 2, 3, 4), x -> x.restore(1),
        x -> x.road(7, 6, 1), x -> carryOut(x, "x0:1-2;s0:0001-0002")};

    public static void main(String[] args) {
        eachChange();
        nothingDifferent();
        noChanges();
        sixStates();
        theSeventh();
        undoAll();
        whatUndoLeaves();
        slotsAreCopies();
        whatSlotsLeave();
        emptyAndFullSlots();
        DUE.end();
    }

    /** All that undo() and restore() give back. */
    private static String told(GateRoads x) {
        return Scene.told(x, false).replaceAll("count [345] .*", "").replaceAll("fault .*", "") + Scene.told(x, true);
    }

    /** A change records one state, and undo() gives back all that could be read before it. */
    private static void change(String what, Scene.Maker maker, Scene.Call call) {
        GateRoads x = maker.make();
        DUE.is(what + " is right", call.of(x) >= 0 ? 1 : 0, 1);
        DUE.is(what + " is a change", x.count(5), 5);
        DUE.is(what + " undone", x.undo(), 4);
        DUE.is(what + " undone gives back all", told(x).equals(told(maker.make())) ? 1 : 0, 1);
    }

    private static void change(String what, Scene.Call call) {
        change(what, HistoryTest::small, call);
    }

    /** With four changes behind it, so that there is room for one more. */
    private static GateRoads small() {
        GateRoads x = new GateRoads();
        x.save(1);
        x.road(0, 1, 10);
        x.road(1, 2, 20);
        x.open(1, 400, 500, 1);
        x.traveller(0, 300);
        x.save(0);
        return x;
    }

    /** With four changes behind it too: three of them are closures. */
    private static GateRoads closed() {
        GateRoads x = new GateRoads();
        x.road(0, 1, 10);
        for (int closure = 0; closure < 3; closure++) {
            x.close(0, closure, closure + 1);
        }
        return x;
    }

    private static void eachChange() {
        change("2 room", x -> x.room(0, 1, 2, 3));
        change("3 road", x -> x.road(2, 0, 30));
        change("4 open", x -> x.open(0, 1, 2, 1));
        change("5 more", x -> x.more(1, 300, 400));
        change("6 close", x -> x.close(0, 1, 2));
        change("8 traveller", x -> x.traveller(1, 2));
        change("9 go", x -> x.go(0, 0));
        change("10 stay", x -> x.stay(0, 5));
        change("31 restore of another state", x -> x.restore(1));
        change("28 carryOut", x -> carryOut(x, "s0:0100-0200,0300-0400,0500-0600!;x1:0-1;w0+5;g0>0"));
        for (int closure = 0; closure < 3; closure++) {
            int number = closure;
            change("7 lift " + number, HistoryTest::closed, x -> x.lift(number));
        }
    }

    private static int carryOut(GateRoads x, String text) {
        Scene.write(x, text);
        return x.carryOut();
    }

    /** Each method that is a change records the state before it, also if nothing is different then. */
    private static void nothingDifferent() {
        change("2 room as it is", x -> x.room(0, 0, 1440, 1000));
        change("4 open as it is", x -> x.open(0, 0, 1440, 0));
        change("4 open as it is", x -> x.open(1, 400, 500, 1));
        change("31 restore as it is", x -> x.restore(0));
        change("28 carryOut as it is", x -> carryOut(x, "s0:0000-2400"));
        change("28 carryOut of none", x -> carryOut(x, "g9>0"));
        change("28 carryOut of none", x -> carryOut(x, "s9:0000-2400;w0+1"));
    }

    private static void noChange(String what, Scene.Call call, int due) {
        GateRoads x = small();
        DUE.is(what, call.of(x), due);
        DUE.is(what + " is no change", x.count(5), 4);
        DUE.is(what + " leaves the latest change", x.undo(), 3);
        DUE.is(what + " leaves the latest change", x.count(2), 0);
    }

    private static void noChanges() {
        noChange("25 put", x -> x.put('w'), 1);
        noChange("26 wipe", GateRoads::wipe, 0);
        noChange("27 fault", GateRoads::fault, 0);
        noChange("28 carryOut of no text", GateRoads::carryOut, -3);
        noChange("28 carryOut of a wrong text", x -> carryOut(x, "w0+5;"), -3);
        noChange("30 save", x -> x.save(0), 2);
        noChange("10 stay that is refused", x -> x.stay(0, 1000) == 1300 && x.stay(0, 1) == -5 ? x.undo() : -9, 4);
        noChange("9 go that is refused", x -> x.go(0, 1), -5);
        noChange("3 road that is wrong", x -> x.road(1, 1, 1), -1);
        noChange("31 restore of nothing saved", x -> x.restore(2), -1);
        noChange("17 earliest", x -> x.earliest(0, 2, 300), 420);
    }

    /** A history of at most 6 states is kept. */
    private static void sixStates() {
        GateRoads x = new GateRoads();
        for (int changes = 1; changes <= 20; changes++) {
            x.traveller(changes % 8, changes * 10);
            if (changes > 10) {
                x.room(0, 0, changes, 5);
            }
            DUE.is("29 " + changes + " changes", x.count(5), Math.min(changes, 6));
        }
        for (int left = 5; left >= 0; left--) {
            DUE.is("29 left", x.undo(), left);
            DUE.is("29 left", x.count(5), left);
            DUE.is("29 the room as it was", x.ofPlace(0, 1), 14 + left);
        }
        for (int again = 0; again < 3; again++) {
            DUE.is("29 none", x.undo(), NONE);
            DUE.is("29 none", x.count(5), 0);
            DUE.is("29 the room stays", x.ofPlace(0, 1), 14);
        }
        x.room(0, 0, 0, 0);
        DUE.is("29 one anew", x.count(5), 1);
        DUE.is("29 one anew", x.undo(), 0);
        DUE.is("29 one anew", x.ofPlace(0, 1), 14);
        DUE.is("29 none again", x.undo(), NONE);
    }

    /** When one more is recorded, the oldest one is dropped: whatever the seventh change is. */
    private static void theSeventh() {
        for (int kind = 0; kind < 6; kind++) {
            GateRoads x = new GateRoads();
            x.save(0);
            for (int road = 0; road < 6; road++) {
                x.road(0, 1, 10 + road);
            }
            DUE.is("29 six", x.count(5), 6);
            int answer = kind == 0 ? x.room(0, 0, 0, 0) : kind == 1 ? x.close(0, 0, 1) : kind == 2 ? x.traveller(0, 0)
                : kind == 3 ? x.restore(0) : kind == 4 ? carryOut(x, "w0+1") : carryOut(x, "x0:0-1;x0:0-1;x0:0-1");
            DUE.is("29 the seventh is right, " + kind, answer >= 0 ? 1 : 0, 1);
            DUE.is("29 six still, " + kind, x.count(5), 6);
            for (int left = 5; left >= 0; left--) {
                DUE.is("29 left, " + kind, x.undo(), left);
                DUE.is("29 the roads then, " + kind, x.count(0), left + 1);
                DUE.is("29 no closure then, " + kind, x.count(1), 0);
            }
            DUE.is("29 the state without a road was dropped, " + kind, x.undo(), NONE);
            DUE.is("29 one road, " + kind, x.count(0), 1);
        }
    }

    private static GateRoads changed(int changes) {
        GateRoads x = small();
        x.close(1, 5, 6);
        for (int i = 0; i < changes; i++) {
            SIX[i].of(x);
        }
        return x;
    }

    /** Each state in the history is as it was, from the latest to the oldest. */
    private static void undoAll() {
        for (int undone = 0; undone <= 6; undone++) {
            GateRoads x = changed(6);
            for (int i = 1; i <= undone; i++) {
                DUE.is("29 left", x.undo(), 6 - i);
            }
            DUE.is("29 all as it was, " + undone, told(x).equals(told(changed(6 - undone))) ? 1 : 0, 1);
        }
    }

    /** Everything except the pad, the reason, the slots and the history is as it was before it. */
    private static void whatUndoLeaves() {
        GateRoads x = small();
        x.stay(0, 1);
        x.go(0, 1);
        x.save(0);
        Scene.write(x, "w0+1");
        x.undo();
        DUE.is("29 the pad", x.count(4), 4);
        DUE.is("29 the text", x.fault(), NONE);
        DUE.is("29 the reason", x.count(3), 1);
        DUE.is("29 slot 0", x.restore(0), 2);
        DUE.is("29 slot 0 is from before the undo", x.ofTraveller(0, 1), 301);
        DUE.is("28 the text", x.carryOut(), 1);
        DUE.is("28 the text", x.ofTraveller(0, 1), 302);
        x.undo();
        DUE.is("29 the pad stays empty", x.count(4), 0);
        DUE.is("29 undone", x.ofTraveller(0, 1), 301);
        while (x.undo() >= 0) {
            DUE.is("29 the slots stay", x.save(1) == x.count(0) ? 1 : 0, 1);
        }
        DUE.is("29 the slot of the last undo", x.restore(1), 0);
        DUE.is("29 slot 0 still", x.restore(0), 2);
    }

    private static void slotsAreCopies() {
        GateRoads x = small();
        String saved = told(x);
        for (int round = 0; round < 2; round++) {
            x.room(3, 1, 1, 1);
            x.road(5, 6, 7);
            x.open(0, 3, 4, 1);
            x.more(0, 5, 6);
            x.close(0, 7, 8);
            x.traveller(3, 3);
            x.stay(0, 9);
            DUE.is("31 the slot keeps it", x.restore(0), 2);
            DUE.is("31 all that was saved", told(x).equals(saved) ? 1 : 0, 1);
            DUE.is("31 restore is a change", x.count(5), 6);
        }
        DUE.is("30 it overwrites", x.save(0), 2);
        x.road(5, 6, 7);
        DUE.is("30 it overwrites", x.save(0), 3);
        x.undo();
        DUE.is("31 what was saved last", x.restore(0), 3);
        DUE.is("31 the other slot", x.restore(1), 0);
        DUE.is("31 the other slot is as new", told(x).equals(told(new GateRoads())) ? 1 : 0, 1);
    }

    /** Everything except the pad, the reason, the history and the slots. */
    private static void whatSlotsLeave() {
        GateRoads x = small();
        Scene.write(x, "w0+1");
        x.go(0, 1);
        x.save(0);
        x.wipe();
        Scene.write(x, "w0+10");
        x.stay(0, 1000);
        x.stay(0, 1);
        int changes = x.count(5);
        DUE.is("31 restore", x.restore(0), 2);
        DUE.is("31 the pad is not saved", x.count(4), 5);
        DUE.is("31 the reason is not saved", x.count(3), 7);
        DUE.is("31 the history is not saved", x.count(5), changes + 1);
        DUE.is("31 undo brings back what was ahead of restore", x.undo(), changes);
        DUE.is("31 undo brings back what was ahead of restore", x.ofTraveller(0, 1), 1300);
        DUE.is("31 and what was ahead of that", x.undo(), changes - 1);
        DUE.is("31 and what was ahead of that", x.ofTraveller(0, 1), 300);
        DUE.is("30 slot 1", x.save(1), 2);
        x.road(5, 6, 7);
        x.restore(1);
        DUE.is("31 the slots are not saved", x.restore(0), 2);
    }

    private static void emptyAndFullSlots() {
        GateRoads x = new GateRoads();
        DUE.is("31 nothing was saved", x.restore(0), -1);
        DUE.is("30 no roads", x.save(0), 0);
        DUE.is("31 no roads were saved, which is not nothing", x.restore(0), 0);
        DUE.is("31 nothing was saved in the other", x.restore(1), -1);
        for (int road = 0; road < 24; road++) {
            x.road(0, 1, 1);
        }
        DUE.is("30 24 roads", x.save(1), 24);
        DUE.is("31 no roads", x.restore(0), 0);
        DUE.is("3 road 0 anew", x.road(2, 3, 4), 0);
        DUE.is("31 24 roads", x.restore(1), 24);
        DUE.is("3 no 25th", x.road(2, 3, 4), -4);
        DUE.is("31 road 0 as it was", x.ofRoad(0, 2), 1);
        DUE.is("31 the last road as it was", x.ofRoad(23, 1), 1);
    }
}
