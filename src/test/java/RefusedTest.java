/**
 * Each way in which a call is refused: its exception, the first one documented if several apply, and that the
 * object is as if it had not been called. The same is asked of the calls that only ask.
 */
final class RefusedTest {
    private static final String INDEX = "IndexOutOfBoundsException";
    private static final String ARGUMENT = "IllegalArgumentException";
    private static final String STATE = "IllegalStateException";
    private static final String ELEMENT = "NoSuchElementException";
    private static final String ARITHMETIC = "ArithmeticException";

    private static final String[] NEW = {};

    /** At 12: boat 0 behind boat 1, its coat wet; boat 2 away; boat 3 waits; a free berth; bad from 14 to 16. */
    private static final String[] USED = {
        "setTide 500 20 5", "setCradle 90 20", "addBerth -1 80 30", "addBerth 0 80 30", "addBerth -1 70 20",
        "addBerth 2 70 20", "addBoat 100 30 10 3", "addBoat 120 40 12 4", "addBoat 90 20 8 9", "addBoat 300 80 25 2",
        "lift 0 1", "pass 1", "lift 1 0", "pass 1", "lift 2 2", "pass 1", "paint 2 4", "tellWeather 4 5", "pass 5",
        "launch 2", "pass 1", "paint 0 48", "tellWeather 14 16", "pass 3",
    };
    /** The same with the cradle busy, by a boat that came back. */
    private static final String[] BUSY = with(USED, "comeBack 2", "lift 2 3");
    private static final String[] BAD = with(USED, "pass 2");
    private static final String[] AT_THE_END = atTheEnd();
    /** Six berths in two rows, all of them occupied, eight boats, six spans. */
    private static final String[] FULL = {
        "setTide 600 0 0", "addBerth -1 90 20", "addBerth 0 90 20", "addBerth 1 90 20",
        "addBerth -1 90 20", "addBerth 3 90 20", "addBerth 4 90 20",
        "addBoat 50 1 9 0", "addBoat 50 2 9 0", "addBoat 50 3 9 0", "addBoat 50 4 9 0",
        "addBoat 50 5 9 0", "addBoat 50 6 9 0", "addBoat 50 7 9 1", "addBoat 50 8 9 0",
        "lift 0 2", "pass 1", "lift 1 1", "pass 1", "lift 2 0", "pass 1",
        "lift 3 5", "pass 1", "lift 4 4", "pass 1", "lift 5 3", "pass 1",
        "tellWeather 8 9", "tellWeather 10 11", "tellWeather 12 13",
        "tellWeather 14 15", "tellWeather 16 17", "tellWeather 18 10000",
    };

    public static void main(String[] args) {
        newObject();
        addBerth();
        addBoat();
        tideAndCradle();
        weather();
        hours();
        floods();
        moves();
        moreMoves();
        boats();
        coats();
        ways();
        figures();
        callsThatOnlyAsk();
        Expect.end();
    }

    private static String[] with(String[] before, String... more) {
        String[] all = new String[before.length + more.length];
        System.arraycopy(before, 0, all, 0, before.length);
        System.arraycopy(more, 0, all, before.length, more.length);
        return all;
    }

    private static String[] atTheEnd() {
        String[] all = USED;
        for (int hour = 12; hour < 9999; hour += Math.min(336, 9999 - hour)) {
            all = with(all, "pass " + Math.min(336, 9999 - hour));
        }
        return all;
    }

    private static void refused(String[] before, String call, String exception) {
        BoatCradle x = Calls.after(before);
        Calls.due(x, call, exception);
        unchanged(before, x, call);
    }

    private static void unchanged(String[] before, BoatCradle x, String call) {
        String want = Probe.of(Calls.after(before));
        Expect.due("what is seen after " + call, want, () -> Probe.of(x));
    }

    private static void newObject() {
        String[] noBoat = {"floodHours 0 1", "floodByHours 0 1", "nextFlood 0", "lift 0 0", "liftReason 0 0",
            "launch 0", "launchReason 0", "shift 0 0", "shiftReason 0 0", "comeBack 0", "state 0", "berthOf 0",
            "boatIn 0", "paint 0 4", "dryLeft 0", "dryAt 0", "dryByHours 0", "leastShifted 0", "leastByRounds 0",
            "addBerth 0 1 1"};
        for (String call : noBoat) {
            refused(NEW, call, INDEX);
        }
        refused(NEW, "nextWaiting", ELEMENT);
        refused(NEW, "usedShare", ARITHMETIC);
        refused(NEW, "meanDraught", ARITHMETIC);
    }

    private static void addBerth() {
        for (String[] before : new String[][] {NEW, USED, FULL}) {
            refused(before, "addBerth -2 50 20", INDEX);
            refused(before, "addBerth 6 50 20", INDEX);
            refused(before, "addBerth -1 0 20", ARGUMENT);
            refused(before, "addBerth -1 201 20", ARGUMENT);
            refused(before, "addBerth -1 50 0", ARGUMENT);
            refused(before, "addBerth -1 50 41", ARGUMENT);
            refused(before, "addBerth -2 0 41", INDEX);
            refused(before, "addBerth 6 201 20", INDEX);
            refused(before, "addBerth 6 50 0", INDEX);
        }
        refused(USED, "addBerth 4 50 20", INDEX);
        refused(FULL, "addBerth -1 50 20", STATE);
        refused(FULL, "addBerth 5 50 20", STATE);
        refused(FULL, "addBerth 5 200 41", ARGUMENT);
    }

    private static void addBoat() {
        for (String[] before : new String[][] {NEW, USED, FULL}) {
            refused(before, "addBoat 49 10 10 0", ARGUMENT);
            refused(before, "addBoat 401 10 10 0", ARGUMENT);
            refused(before, "addBoat 50 0 10 0", ARGUMENT);
            refused(before, "addBoat 50 201 10 0", ARGUMENT);
            refused(before, "addBoat 50 10 0 0", ARGUMENT);
            refused(before, "addBoat 50 10 41 0", ARGUMENT);
            refused(before, "addBoat 50 10 10 -1", ARGUMENT);
            refused(before, "addBoat 50 10 10 10", ARGUMENT);
        }
        refused(FULL, "addBoat 50 10 10 0", STATE);
    }

    private static void tideAndCradle() {
        for (String[] before : new String[][] {NEW, USED, FULL}) {
            refused(before, "setTide -1 10 10", ARGUMENT);
            refused(before, "setTide 601 10 10", ARGUMENT);
            refused(before, "setTide 100 -1 10", ARGUMENT);
            refused(before, "setTide 100 61 10", ARGUMENT);
            refused(before, "setTide 100 10 -1", ARGUMENT);
            refused(before, "setTide 100 10 31", ARGUMENT);
            refused(before, "setCradle 0 7", ARGUMENT);
            refused(before, "setCradle 201 7", ARGUMENT);
            refused(before, "setCradle 77 -1", ARGUMENT);
            refused(before, "setCradle 77 51", ARGUMENT);
        }
    }

    private static void weather() {
        for (String[] before : new String[][] {NEW, USED, FULL}) {
            refused(before, "tellWeather -1 20", ARGUMENT);
            refused(before, "tellWeather 20 20", ARGUMENT);
            refused(before, "tellWeather 20 19", ARGUMENT);
            refused(before, "tellWeather 20 10001", ARGUMENT);
            refused(before, "tellWeather 10000 10001", ARGUMENT);
        }
        refused(USED, "tellWeather 11 20", ARGUMENT);
        refused(FULL, "tellWeather 5 20", ARGUMENT);
        refused(FULL, "tellWeather 6 7", STATE);
        refused(FULL, "tellWeather 9999 10000", STATE);
        refused(AT_THE_END, "tellWeather 9998 10000", ARGUMENT);
    }

    private static void hours() {
        for (String[] before : new String[][] {NEW, USED, AT_THE_END}) {
            refused(before, "level -1", ARGUMENT);
            refused(before, "level 10000", ARGUMENT);
            refused(before, "isBad -1", ARGUMENT);
            refused(before, "isBad 10000", ARGUMENT);
            refused(before, "pass 0", ARGUMENT);
            refused(before, "pass -1", ARGUMENT);
            refused(before, "pass 337", ARGUMENT);
        }
        refused(AT_THE_END, "pass 1", ARGUMENT);
        refused(AT_THE_END, "pass 336", ARGUMENT);
    }

    private static void floods() {
        for (String call : new String[] {"floodHours ", "floodByHours "}) {
            refused(USED, call + "-1 100", INDEX);
            refused(USED, call + "4 100", INDEX);
            refused(USED, call + "3 0", ARGUMENT);
            refused(USED, call + "3 5001", ARGUMENT);
            refused(USED, call + "4 0", INDEX);
            refused(USED, call + "-1 5001", INDEX);
        }
        refused(USED, "nextFlood 4", INDEX);
        String[] dry = with(USED, "setTide 0 0 0");
        refused(dry, "nextFlood 0", ELEMENT);
        refused(dry, "nextFlood 4", INDEX);
        refused(dry, "nextFlood -1", INDEX);
    }

    private static void moves() {
        refused(USED, "lift 4 0", INDEX);
        refused(USED, "lift -1 0", INDEX);
        refused(USED, "lift 3 4", INDEX);
        refused(USED, "lift 3 -1", INDEX);
        refused(USED, "lift 0 4", INDEX);
        refused(USED, "lift 4 4", INDEX);
        refused(USED, "lift 0 2", STATE);
        refused(USED, "lift 2 2", STATE);
        refused(USED, "lift 3 1", STATE);
        refused(USED, "lift 3 2", STATE);
        refused(with(USED, "comeBack 2"), "lift 2 0", STATE);
        refused(with(USED, "comeBack 2", "setTide 109 0 0"), "lift 2 2", STATE);
        refused(with(USED, "comeBack 2", "setCradle 19 0"), "lift 2 2", STATE);
        refused(with(BAD, "comeBack 2"), "lift 2 2", STATE);
        refused(with(BUSY, "addBoat 50 1 1 1"), "lift 4 2", STATE);
        refused(FULL, "lift 6 6", INDEX);
        refused(FULL, "lift 8 0", INDEX);
        refused(FULL, "lift 6 0", STATE);
        refused(USED, "launch 4", INDEX);
        refused(USED, "launch -1", INDEX);
        refused(USED, "launch 0", STATE);
        refused(USED, "launch 2", STATE);
        refused(USED, "launch 3", STATE);
        refused(BUSY, "launch 1", STATE);
        refused(BAD, "launch 1", STATE);
        refused(with(USED, "setTide 139 0 0"), "launch 1", STATE);
        refused(with(USED, "setCradle 39 0"), "launch 1", STATE);
        refused(FULL, "launch 0", STATE);
        refused(FULL, "launch 1", STATE);
    }

    private static void moreMoves() {
        refused(USED, "shift 4 2", INDEX);
        refused(USED, "shift -1 2", INDEX);
        refused(USED, "shift 1 4", INDEX);
        refused(USED, "shift 1 -1", INDEX);
        refused(USED, "shift 3 4", INDEX);
        refused(USED, "shift 3 2", STATE);
        refused(USED, "shift 2 2", STATE);
        refused(USED, "shift 0 2", STATE);
        refused(USED, "shift 1 0", STATE);
        refused(USED, "shift 1 1", STATE);
        refused(BUSY, "shift 1 2", STATE);
        refused(BAD, "shift 1 2", STATE);
        refused(with(USED, "setCradle 39 0"), "shift 1 2", STATE);
        refused(with(USED, "addBerth -1 39 20"), "shift 1 4", STATE);
        refused(with(USED, "addBerth -1 40 11"), "shift 1 4", STATE);
        refused(with(USED, "pass 60"), "shift 0 2", STATE);
        refused(FULL, "shift 2 3", STATE);
        refused(USED, "comeBack 4", INDEX);
        refused(USED, "comeBack -1", INDEX);
        refused(USED, "comeBack 0", STATE);
        refused(USED, "comeBack 3", STATE);
        refused(FULL, "comeBack 7", STATE);
        refused(FULL, "comeBack 8", INDEX);
    }

    private static void boats() {
        String[] noneWaits = {"setTide 600 0 0", "addBerth -1 90 20", "addBerth -1 90 20", "addBoat 50 1 9 0",
            "addBoat 50 2 9 0", "lift 0 0", "pass 1", "launch 0", "pass 1", "lift 1 0"};
        refused(noneWaits, "nextWaiting", ELEMENT);
        refused(noneWaits, "meanDraught", ARITHMETIC);
        refused(USED, "state 4", INDEX);
        refused(USED, "state -1", INDEX);
        refused(USED, "berthOf 4", INDEX);
        refused(USED, "berthOf -1", INDEX);
        refused(USED, "berthOf 2", ELEMENT);
        refused(USED, "berthOf 3", ELEMENT);
        refused(USED, "boatIn 4", INDEX);
        refused(USED, "boatIn -1", INDEX);
        refused(USED, "boatIn 2", ELEMENT);
        refused(FULL, "boatIn 6", INDEX);
        refused(FULL, "berthOf 6", ELEMENT);
        refused(FULL, "berthOf 8", INDEX);
    }

    private static void coats() {
        refused(USED, "paint 4 4", INDEX);
        refused(USED, "paint -1 4", INDEX);
        refused(USED, "paint 4 3", INDEX);
        refused(USED, "paint -1 49", INDEX);
        refused(USED, "paint 1 3", ARGUMENT);
        refused(USED, "paint 1 49", ARGUMENT);
        refused(USED, "paint 0 3", ARGUMENT);
        refused(USED, "paint 2 49", ARGUMENT);
        refused(USED, "paint 3 49", ARGUMENT);
        refused(BAD, "paint 1 3", ARGUMENT);
        refused(BAD, "paint 4 4", INDEX);
        refused(USED, "paint 0 48", STATE);
        refused(USED, "paint 2 4", STATE);
        refused(USED, "paint 3 4", STATE);
        refused(BAD, "paint 1 4", STATE);
        for (String call : new String[] {"dryLeft ", "dryAt ", "dryByHours "}) {
            refused(USED, call + "4", INDEX);
            refused(USED, call + "-1", INDEX);
        }
    }

    private static void ways() {
        for (String call : new String[] {"leastShifted ", "leastByRounds "}) {
            refused(USED, call + "4", INDEX);
            refused(USED, call + "-1", INDEX);
            refused(USED, call + "2", STATE);
            refused(USED, call + "3", STATE);
            refused(FULL, call + "6", STATE);
            refused(FULL, call + "8", INDEX);
            refused(FULL, call + "0", ELEMENT);
            refused(FULL, call + "4", ELEMENT);
            refused(with(USED, "setCradle 39 0"), call + "0", ELEMENT);
            refused(with(USED, "setCradle 39 0"), call + "3", STATE);
        }
    }

    private static void figures() {
        refused(new String[] {"addBoat 50 1 1 0"}, "usedShare", ARITHMETIC);
        refused(new String[] {"addBerth -1 1 1"}, "meanDraught", ARITHMETIC);
    }

    private static void callsThatOnlyAsk() {
        String[] asking = {"level 5", "isBad 14", "floodHours 3 5000", "floodByHours 3 5000", "nextFlood 3",
            "liftReason 3 2", "liftReason 0 0", "launchReason 1", "launchReason 0", "shiftReason 1 2",
            "shiftReason 0 0", "nextWaiting", "state 0", "berthOf 1", "boatIn 0", "dryLeft 0", "dryAt 0",
            "dryByHours 0", "time", "leastShifted 0", "leastByRounds 0", "leastShifted 1", "leastByRounds 1",
            "movedWeight", "usedShare", "meanDraught"};
        for (String[] before : new String[][] {USED, BUSY, BAD, AT_THE_END}) {
            for (String call : asking) {
                BoatCradle x = Calls.after(before);
                Calls.go(x, call);
                unchanged(before, x, call);
            }
        }
    }
}
