import java.util.Random;

/** Runs of calls, drawn by fixed seeds, of which each answer is compared with that of PlainRoads. */
final class RandomRunsTest {
    private static final int CALLS = 512;

    private final Random random;
    private final GateRoads got = new GateRoads();
    private final PlainRoads want = new PlainRoads();
    private final StringBuilder run = new StringBuilder();
    private final int places;
    private final int longest;
    private final boolean wild;
    private boolean same = true;

    private RandomRunsTest(long seed) {
        random = new Random(seed);
        places = 2 + random.nextInt(7);
        longest = random.nextBoolean() ? 600 : 1 + random.nextInt(120);
        wild = random.nextInt(4) == 0;
    }

    private int up(int bound) {
        return random.nextInt(bound);
    }

    private int odd(int[] values) {
        return values[up(values.length)];
    }

    private static final int[] STRANGE = {Integer.MIN_VALUE, Integer.MAX_VALUE, -1, -2, -6, 8, 24, 20, 10, 1440, 1441,
        2880, 2881, 601, 600, 1001, 1000, 0, 1, 2, 3};

    private boolean strange() {
        return up(wild ? 6 : 40) == 0;
    }

    private int place() {
        return strange() ? odd(STRANGE) : up(places);
    }

    private int road() {
        int roads = want.s.roads.size();
        return strange() || roads == 0 ? odd(STRANGE) : up(roads);
    }

    private int traveller() {
        int travellers = want.s.travellers.size();
        return strange() || travellers == 0 ? odd(STRANGE) : up(travellers);
    }

    private int minute() {
        return strange() ? odd(STRANGE) : up(3) == 0 ? 60 * up(25) : up(1441);
    }

    private int time() {
        return strange() ? odd(STRANGE) : up(4) == 0 ? 60 * up(49) : up(3) == 0 ? up(2881) : up(1000);
    }

    private int what(int most) {
        return strange() ? odd(STRANGE) : up(most + 1);
    }

    private int few() {
        return strange() ? odd(STRANGE) : up(2) == 0 ? 1 + up(30) : up(1001);
    }

    private void same(String call, int answer, int due) {
        run.append(call).append(" = ").append(answer).append('\n');
        if (answer != due) {
            same = false;
            run.append("  but due is ").append(due).append('\n');
        }
    }

    private void setUp() {
        int a = place();
        int b = place();
        int c = minute();
        int d = minute();
        int e = few();
        int f = road();
        switch (up(8)) {
            case 0 -> same("room(" + a + ", " + c + ", " + d + ", " + e + ")", got.room(a, c, d, e), want.room(a, c, d, e));
            case 1, 2 -> {
                int m = strange() ? odd(STRANGE) : 1 + up(longest);
                same("road(" + a + ", " + b + ", " + m + ")", got.road(a, b, m), want.road(a, b, m));
            }
            case 3 -> {
                int strict = what(1);
                same("open(" + f + ", " + c + ", " + d + ", " + strict + ")", got.open(f, c, d, strict),
                    want.open(f, c, d, strict));
            }
            case 4, 5 -> {
                int to = up(2) == 0 ? d : Math.min(c, 1440) + up(200);
                same("more(" + f + ", " + c + ", " + to + ")", got.more(f, c, to), want.more(f, c, to));
            }
            case 6 -> {
                int from = time();
                int to = up(2) == 0 ? time() : Math.min(from, 2880) + up(300);
                same("close(" + f + ", " + from + ", " + to + ")", got.close(f, from, to), want.close(f, from, to));
            }
            default -> {
                int x = what(19);
                same("lift(" + x + ")", got.lift(x), want.lift(x));
            }
        }
    }

    private void move() {
        int t = traveller();
        switch (up(5)) {
            case 0 -> {
                int p = place();
                int time = time();
                same("traveller(" + p + ", " + time + ")", got.traveller(p, time), want.traveller(p, time));
            }
            case 1, 2 -> {
                int r = road();
                same("go(" + t + ", " + r + ")", got.go(t, r), want.go(t, r));
            }
            default -> {
                int m = few();
                same("stay(" + t + ", " + m + ")", got.stay(t, m), want.stay(t, m));
            }
        }
    }

    private void look() {
        switch (up(6)) {
            case 0 -> {
                int p = place();
                int w = what(5);
                same("ofPlace(" + p + ", " + w + ")", got.ofPlace(p, w), want.ofPlace(p, w));
            }
            case 1 -> {
                int r = road();
                int w = what(12);
                same("ofRoad(" + r + ", " + w + ")", got.ofRoad(r, w), want.ofRoad(r, w));
            }
            case 2 -> {
                int c = what(5);
                int w = what(2);
                same("ofClosure(" + c + ", " + w + ")", got.ofClosure(c, w), want.ofClosure(c, w));
            }
            case 3 -> {
                int t = traveller();
                int w = what(7);
                same("ofTraveller(" + t + ", " + w + ")", got.ofTraveller(t, w), want.ofTraveller(t, w));
            }
            case 4 -> {
                int w = what(5);
                same("count(" + w + ")", got.count(w), want.count(w));
            }
            default -> {
                int r = road();
                int t = time();
                same("whyShut(" + r + ", " + t + ")", got.whyShut(r, t), want.whyShut(r, t));
            }
        }
    }

    private void seek() {
        int a = place();
        int b = place();
        int c = time();
        int t = traveller();
        switch (up(8)) {
            case 0 -> same("earliest(" + a + ", " + b + ", " + c + ")", got.earliest(a, b, c), want.earliest(a, b, c));
            case 1 -> same("latest(" + a + ", " + b + ", " + c + ")", got.latest(a, b, c), want.latest(a, b, c));
            case 2, 3 -> {
                int w = what(3);
                same("way(" + a + ", " + b + ", " + c + ", " + w + ")", got.way(a, b, c, w), want.way(a, b, c, w));
            }
            case 4 -> {
                int by = up(2) == 0 ? time() : Math.min(c, 2880) + up(200);
                same("reach(" + a + ", " + c + ", " + by + ")", got.reach(a, c, by), want.reach(a, c, by));
            }
            case 5 -> same("needed(" + a + ", " + b + ", " + c + ")", got.needed(a, b, c), want.needed(a, b, c));
            case 6 -> {
                int o = traveller();
                int w = what(1);
                same("meet(" + t + ", " + o + ", " + w + ")", got.meet(t, o, w), want.meet(t, o, w));
            }
            default -> {
                same("arrives(" + t + ", " + a + ")", got.arrives(t, a), want.arrives(t, a));
                same("canStay(" + t + ")", got.canStay(t), want.canStay(t));
            }
        }
    }

    private String number(int usual) {
        return String.valueOf(up(20) == 0 ? up(3000) : usual);
    }

    private String clock() {
        int m = up(15) == 0 ? 1440 : up(1441);
        return String.format("%02d%02d", m / 60, m % 60);
    }

    private String order() {
        int roads = Math.max(1, want.s.roads.size());
        switch (up(4)) {
            case 0: {
                StringBuilder text = new StringBuilder("s" + number(up(roads)) + ":");
                int hours = 1 + up(3);
                for (int i = 0; i < hours; i++) {
                    int from = (1440 / hours) * i + up(100);
                    String plain = String.format("%02d%02d-%02d%02d", from / 60, from % 60, (from + 200) / 60,
                        (from + 200) % 60);
                    text.append(i == 0 ? "" : ",").append(up(5) == 0 ? clock() + "-" + clock() : plain);
                }
                return text + (up(3) == 0 ? "!" : "");
            }
            case 1: {
                int from = up(2880);
                return "x" + number(up(roads)) + ":" + number(from) + "-" + number(from + 1 + up(2880 - from));
            }
            case 2:
                return "g" + up(up(4) == 0 ? 10 : 2) + ">" + number(up(roads));
            default:
                return "w" + up(up(4) == 0 ? 10 : 2) + "+" + number(1 + up(40));
        }
    }

    private void write() {
        StringBuilder text = new StringBuilder(order());
        for (int i = up(5); i > 0; i--) {
            text.append(';').append(order());
        }
        if (up(3) == 0) {
            int at = up(text.length());
            String signs = "0123456789:-,;>+!sxgw~";
            char sign = signs.charAt(up(signs.length()));
            switch (up(4)) {
                case 0 -> text.setCharAt(at, sign);
                case 1 -> text.insert(at, sign);
                case 2 -> text.deleteCharAt(at);
                default -> text.setLength(at);
            }
        }
        for (int i = 0; i < text.length(); i += 8) {
            put(text.substring(i, Math.min(i + 8, text.length())));
        }
        same("fault() of " + want.pad, got.fault(), want.fault());
        same("carryOut()", got.carryOut(), want.carryOut());
        if (up(2) == 0) {
            same("wipe()", got.wipe(), want.wipe());
        }
    }

    private void put(String part) {
        long characters = 0;
        for (char c : part.toCharArray()) {
            characters = characters << 8 | c;
        }
        if (strange()) {
            characters ^= 1L << up(64);
        }
        same("put(" + characters + ")", got.put(characters), want.put(characters));
    }

    private void turnBack() {
        int slot = what(1);
        switch (up(4)) {
            case 0 -> same("save(" + slot + ")", got.save(slot), want.save(slot));
            case 1 -> same("restore(" + slot + ")", got.restore(slot), want.restore(slot));
            default -> same("undo()", got.undo(), want.undo());
        }
    }

    private void wholeState() {
        for (int w = 0; w <= 5; w++) {
            same("count(" + w + ")", got.count(w), want.count(w));
        }
        for (int p = 0; p < 8; p++) {
            for (int w = 0; w <= 5; w++) {
                same("ofPlace(" + p + ", " + w + ")", got.ofPlace(p, w), want.ofPlace(p, w));
            }
        }
        for (int r = 0; r < want.s.roads.size(); r++) {
            for (int w = 0; w <= 12; w++) {
                same("ofRoad(" + r + ", " + w + ")", got.ofRoad(r, w), want.ofRoad(r, w));
            }
        }
        for (int c = 0; c < want.s.closures.size(); c++) {
            for (int w = 0; w <= 2; w++) {
                same("ofClosure(" + c + ", " + w + ")", got.ofClosure(c, w), want.ofClosure(c, w));
            }
        }
        for (int t = 0; t < want.s.travellers.size(); t++) {
            for (int w = 0; w <= 7; w++) {
                same("ofTraveller(" + t + ", " + w + ")", got.ofTraveller(t, w), want.ofTraveller(t, w));
            }
        }
    }

    private boolean play() {
        for (int call = 0; call < CALLS && same; call++) {
            int kind = up(100);
            if (kind < 28) {
                setUp();
            } else if (kind < 52) {
                move();
            } else if (kind < 60) {
                look();
            } else if (kind < 90) {
                seek();
            } else if (kind < 95) {
                write();
            } else {
                turnBack();
            }
        }
        if (same) {
            wholeState();
        }
        return same;
    }

    public static void main(String[] args) {
        int runs = args.length > 0 ? Integer.parseInt(args[0]) : 60;
        int first = args.length > 1 ? Integer.parseInt(args[1]) : 0;
        for (int seed = first; seed < first + runs; seed++) {
            RandomRunsTest test = new RandomRunsTest(seed);
            if (!test.play()) {
                System.out.println("RandomRunsTest, seed " + seed + ":\n" + test.run);
                System.exit(1);
            }
        }
    }
}
