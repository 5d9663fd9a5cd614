/** Promises 29 to 31: undo, save, restore. */
final class UndoTest {
    private static final Due DUE = new Due("UndoTest");

    public static void main(String[] args) {
        undo();
        undoEachChange();
        history();
        noChanges();
        save();
        restore();
        DUE.end();
    }

    private static void undo() {
        GateRoads x = new GateRoads();
        DUE.is("29 none", x.undo(), -6);
        x.road(0, 1, 10);
        x.traveller(0, 5);
        x.put('g');
        DUE.is("29 refused", x.stay(0, 1000), 1005);
        DUE.is("29 refused", x.stay(0, 1), -5);
        DUE.is("29 two are left", x.undo(), 2);
        DUE.is("29 the time is back", x.ofTraveller(0, 1), 5);
        DUE.is("29 the pad stays", x.count(4), 1);
        DUE.is("29 the reason stays", x.count(3), 7);
        DUE.is("29 one is left", x.undo(), 1);
        DUE.is("29 no traveller", x.count(2), 0);
        DUE.is("29 the last", x.undo(), 0);
        DUE.is("29 no road", x.count(0), 0);
        DUE.is("29 none is left", x.undo(), -6);
        DUE.is("29 an undo is no change", x.count(5), 0);
        DUE.is("29 road 0 anew", x.road(3, 4, 7), 0);
        DUE.is("29 as a new one", x.ofRoad(0, 12), 0);
    }

    private static void undoEachChange() {
        GateRoads x = new GateRoads();
        x.road(0, 1, 10);
        x.traveller(0, 5);
        x.close(0, 1000, 1001);
        int same = x.count(5);
        x.room(0, 0, 1440, 1000);
        DUE.is("29 room, also if nothing is different", x.undo(), same);
        x.open(0, 0, 1440, 0);
        DUE.is("29 open, also if nothing is different", x.undo(), same);
        x.open(0, 5, 6, 1);
        x.more(0, 7, 8);
        x.undo();
        DUE.is("29 more", x.ofRoad(0, 4), 1);
        x.undo();
        DUE.is("29 open", x.ofRoad(0, 6), 1440);
        DUE.is("29 strict", x.ofRoad(0, 3), 0);
        x.lift(0);
        DUE.is("29 ways know of lift", x.earliest(0, 1, 1000), 1010);
        x.undo();
        DUE.is("29 lift", x.count(1), 1);
        DUE.is("29 ways know of undo", x.earliest(0, 1, 1000), 1011);
        x.go(0, 0);
        x.undo();
        DUE.is("29 go", x.ofRoad(0, 12), 0);
        DUE.is("29 go", x.ofTraveller(0, 3), 0);
        x.room(0, 3, 4, 5);
        x.undo();
        DUE.is("29 room", x.ofPlace(0, 2), 1000);
        x.save(0);
        x.road(1, 2, 10);
        x.restore(0);
        x.undo();
        DUE.is("29 restore", x.count(0), 2);
    }

    private static void history() {
        GateRoads x = new GateRoads();
        for (int i = 0; i < 20; i++) {
            x.road(0, 1, 10 + i);
            DUE.is("29 six at most", x.count(5), Math.min(6, i + 1));
        }
        for (int left = 5; left >= 0; left--) {
            DUE.is("29 left", x.undo(), left);
            DUE.is("29 roads", x.count(0), 14 + left);
            DUE.is("29 the last road", x.ofRoad(13 + left, 2), 23 + left);
        }
        DUE.is("29 the oldest were dropped", x.undo(), -6);
        DUE.is("29 14 roads", x.count(0), 14);
    }

    private static void noChanges() {
        GateRoads x = new GateRoads();
        x.road(0, 1, 10);
        x.traveller(0, 5);
        x.save(0);
        x.put('a');
        x.fault();
        x.carryOut();
        x.wipe();
        x.earliest(0, 1, 0);
        x.latest(0, 1, 100);
        x.way(0, 1, 0, 0);
        x.reach(0, 0, 9);
        x.needed(0, 1, 0);
        x.meet(0, 0, 0);
        x.arrives(0, 1);
        x.canStay(0);
        x.whyShut(0, 0);
        x.road(0, 0, 10);
        x.road(0, 1, 0);
        x.room(0, 5, 4, 0);
        x.open(0, 5, 4, 0);
        x.more(0, 5, 6);
        x.close(0, 5, 4);
        x.lift(0);
        x.traveller(9, 9);
        x.go(0, 9);
        x.stay(0, 0);
        x.restore(1);
        DUE.is("29 only the road and the traveller are changes", x.count(5), 2);
    }

    private static void save() {
        GateRoads x = new GateRoads();
        DUE.is("30 no roads", x.save(0), 0);
        x.road(0, 1, 10);
        x.road(0, 1, 10);
        DUE.is("30 two roads", x.save(1), 2);
        DUE.is("30 slot", x.save(2), -1);
        DUE.is("30 slot", x.save(-1), -1);
        DUE.is("30 slot", x.save(Integer.MAX_VALUE), -1);
        DUE.is("30 no change", x.count(5), 2);
        DUE.is("30 slot 0 is another one", x.restore(0), 0);
        DUE.is("30 slot 1", x.restore(1), 2);
        x.road(0, 1, 10);
        DUE.is("30 it overwrites", x.save(0), 3);
        x.undo();
        DUE.is("30 it overwrote", x.restore(0), 3);
    }

    private static void restore() {
        GateRoads x = new GateRoads();
        x.room(3, 1, 2, 3);
        x.road(0, 1, 10);
        x.open(0, 100, 200, 1);
        x.close(0, 5, 6);
        x.traveller(0, 100);
        x.go(0, 0);
        DUE.is("31 saved", x.save(0), 1);
        x.undo();
        x.undo();
        x.undo();
        x.room(3, 0, 1440, 1000);
        x.open(0, 0, 1440, 0);
        x.put('w');
        DUE.is("31 other", x.earliest(0, 1, 0), 10);
        int changes = x.count(5);
        DUE.is("31 restored", x.restore(0), 1);
        DUE.is("31 the room", x.ofPlace(3, 2), 3);
        DUE.is("31 the span", x.ofRoad(0, 5), 100);
        DUE.is("31 strict", x.ofRoad(0, 3), 1);
        DUE.is("31 entered", x.ofRoad(0, 12), 1);
        DUE.is("31 the closure", x.ofClosure(0, 1), 5);
        DUE.is("31 the traveller", x.ofTraveller(0, 0), 1);
        DUE.is("31 ways know of it", x.earliest(0, 1, 0), 110);
        DUE.is("31 the pad stays", x.count(4), 1);
        DUE.is("31 a change", x.count(5), changes + 1);
        x.traveller(5, 5);
        DUE.is("31 the slot keeps it", x.restore(0), 1);
        DUE.is("31 the slot keeps it", x.count(2), 1);
        DUE.is("31 undone", x.undo() >= 0 ? x.count(2) : -9, 2);
        DUE.is("31 undo leaves the slots", x.restore(0), 1);
        DUE.is("31 nothing was saved there", x.restore(1), -1);
        DUE.is("31 slot", x.restore(2), -1);
        DUE.is("31 slot", x.restore(-1), -1);
        DUE.is("31 slot", x.restore(Integer.MIN_VALUE), -1);
    }
}
