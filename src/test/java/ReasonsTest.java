/** The reasons 1 to 7: which is the first that applies, and how long it stays. */
final class ReasonsTest {
    private static final Due DUE = new Due("ReasonsTest");
    private static final int REFUSED = -5;

    public static void main(String[] args) {
        goReasons();
        stayReasons();
        spanEdges();
        strictEdges();
        closureEdges();
        lastMinuteOfAll();
        roomEdges();
        limitEdges();
        theReasonStays();
        theReasonOfAText();
        DUE.end();
    }

    /** Whether each of the reasons applies, all that can apply together, and the lowest of them is due. */
    private static void goReasons() {
        for (int elsewhere = 0; elsewhere <= 1; elsewhere++) {
            for (int span = 0; span <= 2; span++) {
                for (int closed = 0; closed <= 1; closed++) {
                    for (int late = 0; late <= 1; late++) {
                        goReason(elsewhere == 1, span, closed == 1, late == 1);
                    }
                }
            }
        }
    }

    private static void goReason(boolean elsewhere, int span, boolean closed, boolean late) {
        GateRoads x = new GateRoads();
        int time = late ? 2861 : 600;
        int minute = time % 1440;
        x.road(elsewhere ? 1 : 0, 2, 20);
        x.traveller(0, time);
        if (span == 0) {
            x.open(0, minute, minute + 1, 0);
        } else if (span == 1) {
            x.open(0, minute - 20, minute, 1);
            x.more(0, minute + 1, minute + 19);
        } else {
            x.open(0, minute, minute + 19, 1);
        }
        if (closed) {
            x.close(0, time, time + 1);
        }
        int shut = span == 1 ? 2 : span == 2 ? 3 : closed ? 4 : late ? 5 : 0;
        String what = " elsewhere " + elsewhere + " span " + span + " closed " + closed + " late " + late;
        DUE.is("16" + what, x.whyShut(0, time), shut);
        DUE.is("16 the reason is not set," + what, x.count(3), 0);
        int due = elsewhere ? 1 : shut;
        DUE.is("9" + what, x.go(0, 0), due == 0 ? time + 20 : REFUSED);
        DUE.is("9 the reason," + what, x.count(3), due);
        DUE.is("9 the place," + what, x.ofTraveller(0, 0), due == 0 ? 2 : 0);
        DUE.is("9 how often," + what, x.ofRoad(0, 12), due == 0 ? 1 : 0);
    }

    private static void stayReasons() {
        for (int late = 0; late <= 1; late++) {
            for (int shut = 0; shut <= 1; shut++) {
                for (int tooLong = 0; tooLong <= 1; tooLong++) {
                    stayReason(late == 1, shut == 1, tooLong == 1);
                }
            }
        }
    }

    private static void stayReason(boolean late, boolean shut, boolean tooLong) {
        GateRoads x = new GateRoads();
        int time = late ? 2861 : 600;
        int minute = time % 1440;
        x.traveller(5, time);
        x.room(5, minute, shut ? minute + 19 : Math.min(minute + 20, 1440), tooLong ? 19 : 20);
        if (late && !shut) {
            x.room(5, 0, 1440, tooLong ? 19 : 20);
        }
        int due = late ? 5 : shut ? 6 : tooLong ? 7 : 0;
        String what = " late " + late + " shut " + shut + " too long " + tooLong;
        DUE.is("10" + what, x.stay(0, 20), due == 0 ? time + 20 : REFUSED);
        DUE.is("10 the reason," + what, x.count(3), due);
        DUE.is("10 the time," + what, x.ofTraveller(0, 1), due == 0 ? time + 20 : time);
        DUE.is("10 the minutes," + what, x.ofTraveller(0, 4), due == 0 ? 20 : 0);
    }

    /** A span is from a minute to a later one, which does not belong to it. */
    private static void spanEdges() {
        GateRoads x = new GateRoads();
        x.road(0, 1, 1);
        x.open(0, 100, 101, 0);
        x.more(0, 0, 1);
        x.more(0, 1439, 1440);
        for (int minute = 0; minute < 1440; minute++) {
            boolean open = minute == 0 || minute == 100 || minute == 1439;
            if (minute < 3 || minute > 1436 || minute > 97 && minute < 104) {
                DUE.is("16 minute " + minute, x.whyShut(0, minute), open ? 0 : 2);
                DUE.is("16 minute " + minute + " of day 1", x.whyShut(0, 1440 + minute), open ? 0 : 2);
            }
        }
        DUE.is("16 the time 2880, its minute 0", x.whyShut(0, 2880), 5);
        x.open(0, 1, 1440, 0);
        DUE.is("16 the time 0", x.whyShut(0, 0), 2);
        DUE.is("16 the time 1", x.whyShut(0, 1), 0);
        DUE.is("16 the time 1440", x.whyShut(0, 1440), 2);
        DUE.is("16 the time 2880, its minute 0", x.whyShut(0, 2880), 2);
    }

    /** The minute of the day and the minutes that it takes are not more than the end of this span together. */
    private static void strictEdges() {
        GateRoads x = new GateRoads();
        x.road(0, 1, 30);
        x.open(0, 100, 130, 1);
        x.more(0, 130, 160);
        x.more(0, 1410, 1440);
        DUE.is("16 just as long as the span", x.whyShut(0, 100), 0);
        DUE.is("16 the next span does not help", x.whyShut(0, 101), 3);
        DUE.is("16 up to its last minute", x.whyShut(0, 129), 3);
        DUE.is("16 in the next span", x.whyShut(0, 130), 0);
        DUE.is("16 in the next span", x.whyShut(0, 131), 3);
        DUE.is("16 up to midnight", x.whyShut(0, 1410), 0);
        DUE.is("16 beyond midnight", x.whyShut(0, 1411), 3);
        DUE.is("16 up to 2880", x.whyShut(0, 2850), 0);
        DUE.is("16 beyond 2880", x.whyShut(0, 2851), 3);
        x.open(0, 0, 1440, 1);
        DUE.is("16 open all the day, and beyond midnight", x.whyShut(0, 1411), 3);
        DUE.is("16 open all the day, and up to midnight", x.whyShut(0, 1410), 0);
        x.open(0, 0, 1440, 0);
        DUE.is("16 not strict, beyond midnight", x.whyShut(0, 1439), 0);
        x.open(0, 200, 229, 1);
        DUE.is("16 a span that is too short", x.whyShut(0, 200), 3);
        x.open(0, 200, 229, 0);
        DUE.is("16 a span that is too short, not strict", x.whyShut(0, 228), 0);
        x.road(0, 1, 600);
        x.open(1, 840, 1440, 1);
        DUE.is("16 600 minutes", x.whyShut(1, 840), 0);
        DUE.is("16 600 minutes and one", x.whyShut(1, 841), 3);
        DUE.is("16 a minute ahead", x.whyShut(1, 839), 2);
    }

    private static void closureEdges() {
        GateRoads x = new GateRoads();
        x.road(0, 1, 1);
        x.road(0, 1, 1);
        x.close(0, 0, 1);
        x.close(0, 1000, 1010);
        x.close(0, 1010, 1011);
        x.close(0, 1005, 1008);
        x.close(0, 1439, 1441);
        x.close(0, 2879, 2880);
        int[][] due = {{0, 4}, {1, 0}, {999, 0}, {1000, 4}, {1007, 4}, {1008, 4}, {1009, 4}, {1010, 4}, {1011, 0},
            {1438, 0}, {1439, 4}, {1440, 4}, {1441, 0}, {2440, 0}, {2450, 0}, {2878, 0}, {2879, 4}, {2880, 5}};
        for (int[] pair : due) {
            DUE.is("16 closed at " + pair[0], x.whyShut(0, pair[0]), pair[1]);
        }
        DUE.is("16 the other road at 0", x.whyShut(1, 0), 0);
        DUE.is("16 the other road at 2879", x.whyShut(1, 2879), 0);
        x.close(1, 0, 2880);
        DUE.is("16 closed for all times", x.whyShut(1, 0), 4);
        DUE.is("16 closed for all times", x.whyShut(1, 2879), 4);
        DUE.is("16 but the last, which is too late", x.whyShut(1, 2880), 5);
        x.lift(0);
        DUE.is("16 lifted at 0", x.whyShut(0, 0), 0);
        DUE.is("16 another one is not", x.whyShut(0, 1000), 4);
    }

    /** The time at which one comes to its end is 2880 at most. */
    private static void lastMinuteOfAll() {
        GateRoads x = new GateRoads();
        int[] minutes = {1, 2, 599, 600};
        for (int road = 0; road < minutes.length; road++) {
            x.road(0, 1, minutes[road]);
            DUE.is("16 to 2880", x.whyShut(road, 2880 - minutes[road]), 0);
            DUE.is("16 to 2881", x.whyShut(road, 2881 - minutes[road]), 5);
            x.traveller(0, 2880 - minutes[road]);
            DUE.is("9 to 2880", x.go(x.count(2) - 1, road), 2880);
            x.traveller(0, 2881 - minutes[road]);
            DUE.is("9 to 2881", x.go(x.count(2) - 1, road), REFUSED);
            DUE.is("9 its reason", x.count(3), 5);
        }
        x.traveller(3, 2879);
        DUE.is("10 to 2880", x.stay(8, 1), 2880);
        DUE.is("10 to 2881", x.stay(8, 1), REFUSED);
        DUE.is("10 its reason", x.count(3), 5);
        DUE.is("24 none is left", x.canStay(8), 0);
    }

    /** It must be open in each of the minutes from that time up to the one ahead of the later one. */
    private static void roomEdges() {
        int[][] due = {{100, 200, 99, 1, 6}, {100, 200, 100, 1, 0}, {100, 200, 100, 100, 0}, {100, 200, 100, 101, 6},
            {100, 200, 199, 1, 0}, {100, 200, 199, 2, 6}, {100, 200, 200, 1, 6}, {100, 200, 1540, 100, 0},
            {100, 200, 1540, 101, 6}, {100, 200, 1539, 1, 6}, {100, 200, 2879, 1, 6}, {0, 1440, 1439, 2, 0},
            {0, 1440, 1440, 1000, 0}, {0, 1440, 0, 1000, 0}, {0, 1440, 2879, 1, 0}, {1, 1440, 1439, 1, 0},
            {1, 1440, 1439, 2, 6}, {1, 1440, 1440, 1, 6}, {1, 1440, 0, 1, 6}, {1, 1440, 1, 1000, 0},
            {1, 1440, 2879, 1, 0}, {0, 1439, 1438, 1, 0}, {0, 1439, 1438, 2, 6}, {0, 1439, 1439, 1, 6},
            {0, 1439, 1439, 2, 6}, {0, 1439, 1440, 1, 0}, {0, 1439, 2878, 1, 0}, {0, 1439, 2879, 1, 6},
            {0, 0, 0, 1, 6}, {0, 0, 1440, 1, 6}, {700, 700, 700, 1, 6}, {700, 700, 699, 1, 6},
            {1440, 1440, 1439, 1, 6}, {1440, 1440, 0, 1, 6}, {1439, 1440, 1439, 1, 0}, {1439, 1440, 1439, 2, 6},
            {0, 1, 0, 1, 0}, {0, 1, 0, 2, 6}, {0, 1, 1440, 1, 0}, {0, 1, 1, 1, 6}};
        for (int[] row : due) {
            GateRoads x = new GateRoads();
            x.room(4, row[0], row[1], 1000);
            x.traveller(4, row[2]);
            String what = "10 open from " + row[0] + " to " + row[1] + ", " + row[3] + " minutes from " + row[2];
            DUE.is(what, x.stay(0, row[3]), row[4] == 0 ? row[2] + row[3] : REFUSED);
            DUE.is(what + ", the reason", x.count(3), row[4]);
        }
    }

    /** At most so many minutes in all since one came there. */
    private static void limitEdges() {
        int[] limits = {0, 1, 2, 999, 1000};
        for (int limit : limits) {
            GateRoads x = new GateRoads();
            x.room(6, 0, 1440, limit);
            x.traveller(6, 100);
            DUE.is("24 the limit " + limit, x.canStay(0), limit);
            for (int stays = 0; stays < 2 && stays < limit; stays++) {
                DUE.is("10 one of " + limit, x.stay(0, 1), 101 + stays);
            }
            int left = Math.max(limit - 2, 0);
            DUE.is("24 what is left of " + limit, x.canStay(0), left);
            DUE.is("10 one more than " + limit, x.stay(0, left + 1), REFUSED);
            DUE.is("10 its reason", x.count(3), 7);
            if (left > 0) {
                DUE.is("10 up to " + limit, x.stay(0, left), 100 + limit);
            }
            DUE.is("24 none is left of " + limit, x.canStay(0), 0);
            x.road(6, 5, 1);
            x.road(5, 6, 1);
            x.go(0, 0);
            x.go(0, 1);
            DUE.is("24 anew, as it came there again", x.canStay(0), limit);
        }
    }

    private static void theReasonStays() {
        GateRoads x = Scene.some();
        DUE.is("7 of the latest", x.count(3), 7);
        x.stay(0, 0);
        x.go(9, 9);
        x.road(0, 0, 0);
        x.restore(5);
        x.put(0);
        x.way(0, 9, 0, 0);
        DUE.is("an error leaves the reason", x.count(3), 7);
        x.whyShut(1, 0);
        x.whyShut(0, 2880);
        x.earliest(2, 1, 2880);
        x.meet(0, 1, 0);
        DUE.is("what cannot be is not refused", x.count(3), 7);
        DUE.is("10 it can stay", x.stay(0, 1), 316);
        DUE.is("9 it can go", x.go(1, 1) > 0 ? 1 : 0, 0);
        DUE.is("9 2 of the latest", x.count(3), 2);
        DUE.is("9 another one", x.go(1, 0), REFUSED);
        DUE.is("9 1 of the latest", x.count(3), 1);
        DUE.is("9 the one before again", x.go(1, 1), REFUSED);
        DUE.is("9 a higher one too", x.count(3), 2);
        x.undo();
        x.restore(0);
        x.undo();
        x.save(1);
        x.wipe();
        x.fault();
        DUE.is("29 it stays by undo, save and restore", x.count(3), 2);
        x.room(0, 0, 0, 0);
        x.traveller(0, 0);
        DUE.is("10 it cannot stay", x.stay(x.count(2) - 1, 1), REFUSED);
        DUE.is("10 6 of the latest", x.count(3), 6);
        DUE.is("29 undone", x.undo() >= 0 ? 1 : 0, 1);
        DUE.is("29 the reason is not", x.count(3), 6);
    }

    /** "g" is go() and "w" is stay(); one that is refused is so for its reason. */
    private static void theReasonOfAText() {
        String[] texts = {"g0>0", "g0>1", "g0>2", "g0>3", "g0>4", "w0+11", "w1+1", "w2+6"};
        int[] reasons = {1, 2, 3, 4, 5, 5, 6, 7};
        for (int i = 0; i < texts.length; i++) {
            GateRoads x = reasons();
            Scene.write(x, texts[i]);
            DUE.is("28 none is carried out of " + texts[i], x.carryOut(), 0);
            DUE.is("28 its reason", x.count(3), reasons[i]);
        }
        GateRoads x = reasons();
        Scene.write(x, "w2+6");
        x.carryOut();
        Scene.write(x, "w2+5;x9:0-1");
        DUE.is("28 up to an error that is no refusal", x.carryOut(), 1);
        DUE.is("28 the reason stays", x.count(3), 7);
        Scene.write(x, "w9+1");
        DUE.is("28 no such traveller", x.carryOut(), 0);
        DUE.is("28 the reason stays", x.count(3), 7);
        Scene.write(x, "w0+0");
        DUE.is("28 minutes out of range", x.carryOut(), 0);
        DUE.is("28 the reason stays", x.count(3), 7);
    }

    private static GateRoads reasons() {
        GateRoads x = new GateRoads();
        x.road(1, 0, 11);
        for (int road = 1; road < 5; road++) {
            x.road(0, 1, 11);
        }
        x.open(1, 1431, 1440, 0);
        x.open(2, 0, 1440, 1);
        x.close(3, 2870, 2871);
        x.traveller(0, 2870);
        x.traveller(2, 100);
        x.room(2, 101, 200, 5);
        x.traveller(3, 100);
        x.room(3, 0, 1440, 5);
        return x;
    }
}
