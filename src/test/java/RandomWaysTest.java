import java.util.Random;

/** Narrow worlds, drawn by fixed seeds, of which the ways are compared with those of PlainRoads. */
final class RandomWaysTest {
    private final Random random;
    private final GateRoads got = new GateRoads();
    private final PlainRoads want = new PlainRoads();
    private final StringBuilder run = new StringBuilder();
    private final int places;
    private boolean same = true;

    private RandomWaysTest(long seed) {
        random = new Random(seed);
        places = 2 + up(7);
    }

    private int up(int bound) {
        return random.nextInt(bound);
    }

    private void same(String call, int answer, int due) {
        run.append(call).append(" = ").append(answer).append('\n');
        if (answer != due) {
            same = false;
            run.append("  but due is ").append(due).append('\n');
        }
    }

    private void makeRooms() {
        int shut = up(5);
        int shortest = 1 + up(200);
        for (int p = 0; p < places; p++) {
            int from = up(3) == 0 ? up(1441) : 0;
            int to = up(4) < shut ? from + up(1441 - from) : 1440;
            int limit = up(4) == 0 ? 1000 : up(shortest);
            same("room(" + p + ", " + from + ", " + to + ", " + limit + ")", got.room(p, from, to, limit),
                want.room(p, from, to, limit));
        }
    }

    private void makeRoads() {
        int roads = 3 + up(22);
        int longest = up(4) == 0 ? 600 : 1 + up(60);
        for (int r = 0; r < roads; r++) {
            int a = up(places);
            int b = up(places);
            int m = 1 + up(longest);
            same("road(" + a + ", " + b + ", " + m + ")", got.road(a, b, m), want.road(a, b, m));
        }
        for (int i = up(2 * roads); i > 0; i--) {
            makeSpans(up(roads), 1 + up(600));
        }
        for (int i = up(20); i > 0; i--) {
            int r = up(roads);
            int from = up(2880);
            int to = from + 1 + up(Math.min(2880 - from, 700));
            same("close(" + r + ", " + from + ", " + to + ")", got.close(r, from, to), want.close(r, from, to));
        }
    }

    private void makeSpans(int road, int width) {
        int from = up(1440);
        int to = Math.min(from + width, 1440);
        int strict = up(2);
        same("open(" + road + ", " + from + ", " + to + ", " + strict + ")", got.open(road, from, to, strict),
            want.open(road, from, to, strict));
        for (int i = up(4); i > 0; i--) {
            int f = up(2) == 0 ? Math.min(to, 1439) : up(1440);
            int t = Math.min(f + width, 1440);
            same("more(" + road + ", " + f + ", " + t + ")", got.more(road, f, t), want.more(road, f, t));
        }
    }

    private void makeTravellers() {
        for (int i = 2 + up(4); i > 0; i--) {
            int p = up(places);
            int t = up(1500);
            int w = 1 + up(60);
            int number = got.traveller(p, t);
            same("traveller(" + p + ", " + t + ")", number, want.traveller(p, t));
            same("stay(" + number + ", " + w + ")", got.stay(number, w), want.stay(number, w));
        }
        if (up(3) == 0) {
            makeRooms();
        }
    }

    private int someTraveller() {
        return up(10) == 0 ? up(10) : up(got.count(2));
    }

    private void ask() {
        int a = up(places);
        int b = up(places);
        int t = up(4) == 0 ? up(2881) : up(1500);
        int by = Math.min(2880, t + up(1500));
        same("earliest(" + a + ", " + b + ", " + t + ")", got.earliest(a, b, t), want.earliest(a, b, t));
        same("latest(" + a + ", " + b + ", " + by + ")", got.latest(a, b, by), want.latest(a, b, by));
        for (int w = 0; w < 4; w++) {
            same("way(" + a + ", " + b + ", " + t + ", " + w + ")", got.way(a, b, t, w), want.way(a, b, t, w));
        }
        same("reach(" + a + ", " + t + ", " + by + ")", got.reach(a, t, by), want.reach(a, t, by));
        same("needed(" + a + ", " + b + ", " + t + ")", got.needed(a, b, t), want.needed(a, b, t));
        int one = someTraveller();
        int two = someTraveller();
        same("meet(" + one + ", " + two + ", 0)", got.meet(one, two, 0), want.meet(one, two, 0));
        same("meet(" + one + ", " + two + ", 1)", got.meet(one, two, 1), want.meet(one, two, 1));
        same("arrives(" + one + ", " + a + ")", got.arrives(one, a), want.arrives(one, a));
        same("canStay(" + one + ")", got.canStay(one), want.canStay(one));
    }

    private boolean play() {
        makeRooms();
        makeRoads();
        makeTravellers();
        for (int i = 0; i < 8 && same; i++) {
            ask();
        }
        return same;
    }

    public static void main(String[] args) {
        int runs = args.length > 0 ? Integer.parseInt(args[0]) : 150;
        int first = args.length > 1 ? Integer.parseInt(args[1]) : 0;
        for (int seed = first; seed < first + runs; seed++) {
            RandomWaysTest test = new RandomWaysTest(seed);
            if (!test.play()) {
                System.out.println("RandomWaysTest, seed " + seed + ":\n" + test.run);
                System.exit(1);
            }
        }
    }
}
