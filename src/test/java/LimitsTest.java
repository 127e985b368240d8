/** For each number of each call: the least and the greatest that is taken, and what is refused on either side. */
final class LimitsTest {
    private static final String INDEX = "IndexOutOfBoundsException";
    private static final String ARGUMENT = "IllegalArgumentException";

    /** Three boats, of which one is in a berth, and two berths. */
    private static final String[] YARD = {
        "setTide 600 0 0", "addBerth -1 200 40", "addBerth 0 200 40",
        "addBoat 50 20 10 5", "addBoat 60 20 10 5", "addBoat 70 20 10 5", "lift 0 1", "pass 5",
    };
    private static final String[] NOTHING = {};

    public static void main(String[] args) {
        numbersOfYard();
        numbersOfWeather();
        numbersOfHours();
        numbersOfBoats();
        numbersOfBerths();
        numbersOfPass();
        berthsTakeUpToTheirLimits();
        cradleTakesUpToItsCapacity();
        waterJustEnough();
        ranksFromLeastToGreatest();
        Expect.end();
    }

    /** In the call, the sign # stands for the number. */
    private static void range(String[] before, String call, int least, int most, String refusal) {
        taken(before, call, least, refusal);
        taken(before, call, most, refusal);
        refused(before, call, least - 1, refusal);
        refused(before, call, most + 1, refusal);
        refused(before, call, Integer.MIN_VALUE, refusal);
        refused(before, call, Integer.MAX_VALUE, refusal);
    }

    private static void taken(String[] before, String call, int number, String refusal) {
        BoatCradle x = Calls.after(before);
        String line = call.replace("#", "" + number);
        Expect.due(line + " is taken", true, () -> !Calls.answer(x, line).equals(refusal));
    }

    private static void refused(String[] before, String call, int number, String refusal) {
        Calls.due(Calls.after(before), call.replace("#", "" + number), refusal);
    }

    /** Promises 2 to 5. */
    private static void numbersOfYard() {
        range(NOTHING, "addBerth # 50 20", -1, -1, INDEX);
        range(new String[] {"addBerth -1 1 1"}, "addBerth # 50 20", -1, 0, INDEX);
        range(YARD, "addBerth # 50 20", -1, 1, INDEX);
        range(NOTHING, "addBerth -1 # 20", 1, 200, ARGUMENT);
        range(YARD, "addBerth 1 # 20", 1, 200, ARGUMENT);
        range(NOTHING, "addBerth -1 50 #", 1, 40, ARGUMENT);
        range(YARD, "addBerth 0 50 #", 1, 40, ARGUMENT);
        range(YARD, "addBoat # 10 10 3", 50, 400, ARGUMENT);
        range(YARD, "addBoat 100 # 10 3", 1, 200, ARGUMENT);
        range(YARD, "addBoat 100 10 # 3", 1, 40, ARGUMENT);
        range(YARD, "addBoat 100 10 10 #", 0, 9, ARGUMENT);
        range(YARD, "setTide # 30 15", 0, 600, ARGUMENT);
        range(YARD, "setTide 300 # 15", 0, 60, ARGUMENT);
        range(YARD, "setTide 300 30 #", 0, 30, ARGUMENT);
        range(YARD, "setCradle # 25", 1, 200, ARGUMENT);
        range(YARD, "setCradle 100 #", 0, 50, ARGUMENT);
    }

    /** Promise 6: from this hour up to 9999, and from the next one up to 10000. */
    private static void numbersOfWeather() {
        range(NOTHING, "tellWeather # 10000", 0, 9999, ARGUMENT);
        range(NOTHING, "tellWeather 0 #", 1, 10000, ARGUMENT);
        range(YARD, "tellWeather # 10000", 5, 9999, ARGUMENT);
        range(YARD, "tellWeather # 21", 5, 20, ARGUMENT);
        range(YARD, "tellWeather 5 #", 6, 10000, ARGUMENT);
        range(YARD, "tellWeather 9998 #", 9999, 10000, ARGUMENT);
        range(YARD, "tellWeather 9999 #", 10000, 10000, ARGUMENT);
        BoatCradle atTheEnd = new BoatCradle();
        Calls.goTo(atTheEnd, 9999);
        Calls.due(atTheEnd, "tellWeather 9998 10000", ARGUMENT);
        Calls.due(atTheEnd, "tellWeather 9999 9999", ARGUMENT);
        Calls.due(atTheEnd, "tellWeather 9999 10001", ARGUMENT);
        Calls.due(atTheEnd, "tellWeather 10000 10001", ARGUMENT);
        Calls.due(atTheEnd, "tellWeather 9999 10000", 1);
        Calls.due(atTheEnd, "isBad 9999", true);
    }

    /** Promises 8 to 11: hours that have passed, and the last one, are taken at any time. */
    private static void numbersOfHours() {
        for (String[] before : new String[][] {NOTHING, YARD}) {
            range(before, "level #", 0, 9999, ARGUMENT);
            range(before, "isBad #", 0, 9999, ARGUMENT);
        }
        BoatCradle atTheEnd = new BoatCradle();
        Calls.goTo(atTheEnd, 9999);
        for (String call : new String[] {"level ", "isBad "}) {
            Calls.due(atTheEnd, call + -1, ARGUMENT);
            Calls.due(atTheEnd, call + 10000, ARGUMENT);
        }
        Calls.due(atTheEnd, "level 0", 20);
        Calls.due(atTheEnd, "isBad 0", false);
        for (int boat = 0; boat < 3; boat++) {
            range(YARD, "floodHours " + boat + " #", 1, 5000, ARGUMENT);
            range(YARD, "floodByHours " + boat + " #", 1, 5000, ARGUMENT);
        }
        range(YARD, "paint 0 #", 4, 48, ARGUMENT);
        for (int hours : new int[] {4, 48}) {
            BoatCradle x = Calls.after(YARD);
            Calls.due(x, "paint 0 " + hours, 1);
            Calls.due(x, "dryLeft 0", hours);
        }
    }

    private static final String[] CALLS_OF_A_BOAT = {
        "floodHours # 1", "floodByHours # 1", "nextFlood #", "lift # 0", "liftReason # 0", "launch #",
        "launchReason #", "shift # 0", "shiftReason # 0", "comeBack #", "state #", "berthOf #", "paint # 4",
        "dryLeft #", "dryAt #", "dryByHours #", "leastShifted #", "leastByRounds #",
    };

    /** Promises 10 to 19, 21, 22, 24 to 27, 30 and 31: the boats from 0 to the last one that was added. */
    private static void numbersOfBoats() {
        String[] oneBoat = {"addBerth -1 200 40", "addBoat 50 20 10 5"};
        String[] noBoat = {"addBerth -1 200 40"};
        for (String call : CALLS_OF_A_BOAT) {
            range(YARD, call, 0, 2, INDEX);
            range(oneBoat, call, 0, 0, INDEX);
            for (int boat = -1; boat <= 1; boat++) {
                refused(noBoat, call, boat, INDEX);
                refused(NOTHING, call, boat, INDEX);
            }
        }
    }

    private static final String[] CALLS_OF_A_BERTH = {
        "lift 1 #", "liftReason 1 #", "shift 0 #", "shiftReason 0 #", "boatIn #",
    };

    /** Promises 13, 14, 17, 18 and 23: the berths from 0 to the last one that was added. */
    private static void numbersOfBerths() {
        String[] oneBerth = {"addBoat 50 20 10 5", "addBoat 50 20 10 5", "addBerth -1 200 40"};
        String[] noBerth = {"addBoat 50 20 10 5", "addBoat 50 20 10 5"};
        for (String call : CALLS_OF_A_BERTH) {
            range(YARD, call, 0, 1, INDEX);
            range(oneBerth, call, 0, 0, INDEX);
            for (int berth = -1; berth <= 1; berth++) {
                refused(noBerth, call, berth, INDEX);
                refused(NOTHING, call, berth, INDEX);
            }
        }
    }

    /** Promise 28: 1 to 336 hours, and not beyond 9999. */
    private static void numbersOfPass() {
        range(NOTHING, "pass #", 1, 336, ARGUMENT);
        range(YARD, "pass #", 1, 336, ARGUMENT);
        for (int left : new int[] {1, 2, 335, 336, 337}) {
            for (int hours : new int[] {1, left - 1, left, left + 1, 336, 337}) {
                BoatCradle x = new BoatCradle();
                Calls.goTo(x, 9999 - left);
                boolean taken = hours >= 1 && hours <= 336 && hours <= left;
                Calls.due(x, "pass " + hours, taken ? 9999 - left + hours : ARGUMENT);
                Calls.due(x, "time", taken ? 9999 - left + hours : 9999 - left);
            }
        }
    }

    /** A weight and a length that are just the limits of the berth are no reasons, for a lift and for a shift. */
    private static void berthsTakeUpToTheirLimits() {
        int[][] limits = {{1, 1}, {2, 2}, {100, 20}, {199, 39}, {200, 40}};
        for (int[] limit : limits) {
            BoatCradle x = Calls.after("setTide 600 0 0", "setCradle 200 0", "addBerth -1 200 40",
                "addBerth -1 " + limit[0] + " " + limit[1], "addBoat 50 " + limit[0] + " " + limit[1] + " 0");
            Calls.due(x, "liftReason 0 1", 'n');
            Calls.go(x, "lift 0 0", "pass 1");
            Calls.due(x, "shiftReason 0 1", 'n');
            Calls.due(x, "shift 0 1", 2);
            Calls.due(x, "movedWeight", 2 * limit[0]);
        }
        for (int[] limit : new int[][] {{1, 1}, {99, 19}, {199, 39}}) {
            String berth = "addBerth -1 " + limit[0] + " " + limit[1];
            BoatCradle x = Calls.after("setTide 600 0 0", "setCradle 200 0", "addBerth -1 200 40", berth,
                "addBoat 50 " + (limit[0] + 1) + " " + limit[1] + " 0",
                "addBoat 50 " + limit[0] + " " + (limit[1] + 1) + " 0");
            Calls.due(x, "liftReason 0 1", 'w');
            Calls.due(x, "liftReason 1 1", 'l');
            Calls.go(x, "addBerth -1 200 40", "lift 0 0", "pass 1", "lift 1 2", "pass 1");
            Calls.due(x, "shiftReason 0 1", 'w');
            Calls.due(x, "shiftReason 1 1", 'l');
        }
    }

    /** A weight that is just the capacity is no reason, for any move; 100 is the capacity at first. */
    private static void cradleTakesUpToItsCapacity() {
        BoatCradle x = Calls.after("setTide 600 0 0", "addBerth -1 200 40", "addBerth -1 200 40",
            "addBoat 50 100 1 0", "addBoat 50 101 1 0");
        Calls.due(x, "liftReason 0 0", 'n');
        Calls.due(x, "liftReason 1 0", 'w');
        for (int weight : new int[] {1, 100, 199, 200}) {
            BoatCradle y = Calls.after("setTide 600 0 0", "setCradle 200 0", "addBerth -1 200 40",
                "addBerth -1 200 40", "addBoat 50 " + weight + " 1 0", "lift 0 0", "pass 1",
                "addBoat 50 " + weight + " 1 0");
            lightest(y, weight, 'n');
            if (weight > 1) {
                lightest(y, weight - 1, 'w');
            }
        }
    }

    private static void lightest(BoatCradle x, int capacity, char want) {
        Calls.go(x, "setCradle " + capacity + " 0");
        Calls.due(x, "liftReason 1 1", want);
        Calls.due(x, "launchReason 0", want);
        Calls.due(x, "shiftReason 0 1", want);
    }

    /** A level that is just the draught and the clearance is enough; 10 is the clearance at first. */
    private static void waterJustEnough() {
        BoatCradle x = Calls.after("addBerth -1 200 40", "addBerth -1 200 40", "addBoat 50 1 1 0",
            "setTide 60 0 0", "lift 0 0", "pass 1", "addBoat 50 1 1 0");
        enoughAt(x, 60);
        for (int clearance : new int[] {0, 1, 49, 50}) {
            Calls.go(x, "setCradle 100 " + clearance);
            enoughAt(x, 50 + clearance);
        }
        BoatCradle deep = Calls.after("setTide 600 0 0", "addBerth -1 200 40", "addBerth -1 200 40",
            "addBoat 400 1 1 0", "lift 0 0", "pass 1", "addBoat 400 1 1 0", "setCradle 100 50");
        enoughAt(deep, 450);
    }

    private static void enoughAt(BoatCradle x, int level) {
        Calls.go(x, "setTide " + level + " 0 0");
        Calls.due(x, "liftReason 1 1", 'n');
        Calls.due(x, "launchReason 0", 'n');
        Calls.due(x, "floodHours 1 1", 1);
        Calls.due(x, "floodByHours 1 1", 1);
        Calls.due(x, "nextFlood 1", 1);
        Calls.go(x, "setTide " + (level - 1) + " 0 0");
        Calls.due(x, "liftReason 1 1", 't');
        Calls.due(x, "launchReason 0", 't');
        Calls.due(x, "floodHours 1 1", 0);
        Calls.due(x, "floodByHours 1 1", 0);
        Calls.due(x, "nextFlood 1", "NoSuchElementException");
    }

    /** Promise 20: each rank from 0 to 9 comes before the one below it, whatever the weights. */
    private static void ranksFromLeastToGreatest() {
        for (int rank = 1; rank <= 9; rank++) {
            BoatCradle x = Calls.after("addBoat 50 1 1 " + (rank - 1), "addBoat 400 200 40 " + rank,
                "addBoat 50 1 1 " + (rank - 1));
            Calls.due(x, "nextWaiting", 1);
        }
    }
}
