/** The fault of a text: at each place of each order, which of all characters can stand there. */
final class FaultsTest {
    private static final Due DUE = new Due("FaultsTest");
    private static final int NONE = -6, BAD_TEXT = -3;
    private static final String DIGITS = "0123456789", ORDERS = "sxgw";
    private static final String HOURS = "s7:0000-0100", THREE = "s7:0000-0100,0200-0300,0400-0500";

    public static void main(String[] args) {
        beginnings();
        numbers();
        clocks();
        hours();
        digits();
        fullPads();
        DUE.end();
    }

    /** Behind the beginning just these characters can stand; it is whole, or ends too early. */
    private static void next(String beginning, String can, boolean whole) {
        fault(beginning, whole ? NONE : beginning.length());
        for (char character = 33; character <= 126; character++) {
            if (can.indexOf(character) < 0) {
                fault(beginning + character, beginning.length());
                fault(beginning + character + ";g0>0", beginning.length());
            } else {
                int fault = Scene.written(beginning + character).fault();
                DUE.is("27 " + beginning + character, fault == NONE ? beginning.length() + 1 : fault, beginning.length() + 1);
            }
        }
    }

    private static void fault(String text, int due) {
        GateRoads x = Scene.written(text);
        DUE.is("27 " + text, x.fault(), due);
        DUE.is("28 " + text, x.carryOut() == BAD_TEXT ? 1 : 0, due == NONE ? 0 : 1);
        DUE.is("28 the pad behind " + text, x.count(4), due == NONE ? 0 : text.length());
    }

    private static void beginnings() {
        next("", ORDERS, false);
        String[] orders = {HOURS, HOURS + "!", THREE, THREE + "!", "x1:2-3", "g1>2", "w1+2"};
        for (String order : orders) {
            next(order + ";", ORDERS, false);
        }
        next("g0>0;g0>0;", ORDERS, false);
    }

    /** 0 to 2880 without leading zeros, and what stands behind it. */
    private static void number(String before, String behind, boolean whole) {
        next(before, DIGITS, false);
        next(before + "0", behind, whole);
        for (char digit = '1'; digit <= '9'; digit++) {
            next(before + digit, DIGITS + behind, whole);
            next(before + digit + "0", DIGITS + behind, whole);
            next(before + digit + "9", DIGITS + behind, whole);
            next(before + digit + "00", (digit <= '2' ? DIGITS : "") + behind, whole);
            next(before + digit + "99", (digit == '1' ? DIGITS : "") + behind, whole);
        }
        next(before + "28", DIGITS + behind, whole);
        next(before + "287", DIGITS + behind, whole);
        next(before + "288", "0" + behind, whole);
        next(before + "289", behind, whole);
        next(before + "290", behind, whole);
        next(before + "1000", behind, whole);
        next(before + "1999", behind, whole);
        next(before + "2879", behind, whole);
        next(before + "2880", behind, whole);
    }

    private static void numbers() {
        number("s", ":", false);
        number("x", ":", false);
        number("x5:", "-", false);
        number("x5:2880-", ";", true);
        number("g0>", ";", true);
        number("w9+", ";", true);
        number("g0>0;x", ":", false);
    }

    /** Hours 00 to 24, minutes 00 to 59, of 24 just 00; behind it what stands there. */
    private static void clock(String before, String behind, boolean whole) {
        next(before, "012", false);
        next(before + "0", DIGITS, false);
        next(before + "1", DIGITS, false);
        next(before + "2", "01234", false);
        String[] hours = {"00", "01", "09", "10", "14", "19", "20", "23"};
        for (String hour : hours) {
            next(before + hour, "012345", false);
            next(before + hour + "0", DIGITS, false);
            next(before + hour + "5", DIGITS, false);
            next(before + hour + "00", behind, whole);
            next(before + hour + "59", behind, whole);
        }
        next(before + "24", "0", false);
        next(before + "240", "0", false);
        next(before + "2400", behind, whole);
    }

    private static void clocks() {
        clock("s0:", "-", false);
        clock("s0:0000-", ",!;", true);
        clock(HOURS + ",", "-", false);
        clock(HOURS + ",0000-", ",!;", true);
        clock(HOURS + ",0200-0300,", "-", false);
        clock(HOURS + ",0200-0300,0000-", "!;", true);
    }

    private static void hours() {
        next(HOURS, ",!;", true);
        next(HOURS + "!", ";", true);
        next(HOURS + ",0200-0300", ",!;", true);
        next(HOURS + ",0200-0300!", ";", true);
        next(THREE, "!;", true);
        next(THREE + "!", ";", true);
        next(THREE + ";" + HOURS, ",!;", true);
        fault(THREE + ",0600-0700", THREE.length());
        fault(HOURS + ",", HOURS.length() + 1);
        fault(THREE + ",", THREE.length());
        fault("s7:2400-0000", NONE);
        fault("s7:0000-0000,0000-0000,0000-0000!", NONE);
    }

    private static void digits() {
        next("g", DIGITS, false);
        next("w", DIGITS, false);
        for (char digit = '0'; digit <= '9'; digit++) {
            next("g" + digit, ">", false);
            next("w" + digit, "+", false);
        }
    }

    /** Texts of 79 and 80 characters, whole, too early at their ends, and wrong at the last character. */
    private static void fullPads() {
        String begin = Scene.FULL_TEXT.substring(0, 75);
        fault(begin + "w9+1", NONE);
        fault(begin + "w9+10", NONE);
        fault(begin + "w9+1;", 80);
        fault(begin + "w9+", 78);
        fault(begin + "w9+01", 79);
        fault(begin + "w9+1,", 79);
        fault(begin + "x9:0-", 80);
        fault(begin + "x9:01", 79);
        fault("q" + Scene.FULL_TEXT.substring(1), 0);
        String number = "x2880:2880-2880;x2880:2880-2880;x2880:2880-2880;x2880:2880-2880;x2880:2880-2880;";
        fault(number.substring(0, 79), NONE);
        fault(number, 80);
        fault(number.substring(0, 78) + "1", 78);
    }
}
