/** The empty and the full: no berth, no boat, no span; six berths, eight boats, six spans; and one more or less. */
final class FullTest {
    private static final String STATE = "IllegalStateException";

    public static void main(String[] args) {
        countsBeginAtNothing();
        startsAsTheTermsSay();
        berthsWithoutBoats();
        boatsWithoutBerths();
        sixBerthsInOneRow();
        sixBerthsAtTheCradle();
        eightBoatsWait();
        sixBerthsUnderCoats();
        sixSpans();
        spansThatHavePassed();
        objectsAreApart();
        Expect.end();
    }

    private static BoatCradle highWater() {
        return Calls.after("setTide 600 0 0");
    }

    /** The first of each kind is told by the first number. */
    private static void countsBeginAtNothing() {
        BoatCradle x = highWater();
        Calls.due(x, "time", 0);
        Calls.due(x, "movedWeight", 0);
        Calls.due(x, "forgetWeather", 0);
        Calls.due(x, "addBerth -1 200 40", 0);
        Calls.due(x, "addBoat 50 1 1 0", 0);
        Calls.due(x, "tellWeather 20 21", 1);
        Calls.due(x, "state 0", 'w');
        Calls.due(x, "dryLeft 0", 0);
        Calls.due(x, "lift 0 0", 1);
        Calls.due(x, "paint 0 4", 1);
        Calls.due(x, "usedShare", "1.0");
        Calls.due(x, "meanDraught", "ArithmeticException");
    }

    /** Base 200, parts of 40 and 10, capacity 100, clearance 10; not busy, though no move was made before hour 0. */
    private static void startsAsTheTermsSay() {
        BoatCradle x = new BoatCradle();
        Calls.due(x, "level 0", 200 - 3 * 40 - 6 * 10);
        Calls.due(x, "level 6", 200 + 3 * 40);
        Calls.due(x, "level 12", 200 - 3 * 40 + 6 * 10);
        Calls.due(x, "setCradle 100 10", 100);
        Calls.go(x, "setTide 60 0 0", "addBerth -1 200 40", "addBoat 50 100 40 0", "addBoat 51 1 1 0",
            "addBoat 50 101 1 0");
        Calls.due(x, "liftReason 0 0", 'n');
        Calls.due(x, "liftReason 1 0", 't');
        Calls.due(x, "liftReason 2 0", 'w');
        Calls.due(x, "lift 0 0", 1);
    }

    private static void berthsWithoutBoats() {
        BoatCradle x = Calls.after("addBerth -1 200 40", "addBerth 0 200 40");
        Calls.due(x, "usedShare", "0.0");
        Calls.due(x, "meanDraught", "ArithmeticException");
        Calls.due(x, "nextWaiting", "NoSuchElementException");
        for (int berth = 0; berth < 2; berth++) {
            Calls.due(x, "boatIn " + berth, "NoSuchElementException");
            Calls.due(x, "liftReason 0 " + berth, "IndexOutOfBoundsException");
        }
        Calls.due(x, "pass 336", 336);
    }

    private static void boatsWithoutBerths() {
        BoatCradle x = Calls.after("addBoat 150 20 10 3", "addBoat 151 20 10 3");
        Calls.due(x, "usedShare", "ArithmeticException");
        Calls.due(x, "meanDraught", 150.5);
        Calls.due(x, "nextWaiting", 0);
        Calls.due(x, "launchReason 0", 'a');
        Calls.due(x, "liftReason 0 0", "IndexOutOfBoundsException");
        Calls.due(x, "shiftReason 0 0", "IndexOutOfBoundsException");
        Calls.due(x, "leastShifted 0", STATE);
        Calls.due(x, "leastByRounds 0", STATE);
        Calls.due(x, "dryAt 0", 0);
        Calls.due(x, "dryByHours 0", 0);
    }

    /** Each boat in the row bars all behind it, and none ahead of it. */
    private static void sixBerthsInOneRow() {
        BoatCradle x = highWater();
        for (int berth = 0; berth < 6; berth++) {
            Calls.due(x, "addBerth " + (berth - 1) + " 200 40", berth);
            Calls.go(x, "addBoat 50 1 1 0");
        }
        Calls.go(x, "addBoat 50 1 1 0");
        for (int berth = 0; berth < 6; berth++) {
            Calls.go(x, "lift 6 " + berth, "pass 1");
            for (int other = 0; other < 6; other++) {
                char want = other == berth ? 'o' : other > berth ? 'f' : 'n';
                Calls.due(x, "liftReason 0 " + other, want);
            }
            Calls.go(x, "launch 6", "pass 1", "comeBack 6");
        }
        for (int berth = 5; berth >= 0; berth--) {
            Calls.due(x, "lift " + berth + " " + berth, 18 - berth);
            Calls.go(x, "pass 1");
        }
        for (int boat = 0; boat < 6; boat++) {
            Calls.due(x, "launchReason " + boat, boat == 0 ? 'n' : 'f');
            Calls.due(x, "leastShifted " + boat, boat == 0 ? 0 : "NoSuchElementException");
            Calls.due(x, "leastByRounds " + boat, boat == 0 ? 0 : "NoSuchElementException");
        }
    }

    private static void sixBerthsAtTheCradle() {
        BoatCradle x = highWater();
        for (int berths = 1; berths <= 6; berths++) {
            Calls.due(x, "addBerth -1 200 40", berths - 1);
            Calls.go(x, "addBoat 50 1 1 0");
        }
        Calls.due(x, "addBerth -1 200 40", STATE);
        Calls.due(x, "usedShare", 0f / 6f);
        for (int boat = 0; boat < 6; boat++) {
            Calls.go(x, "lift " + boat + " " + (5 - boat), "pass 1");
            Calls.due(x, "usedShare", (float) (boat + 1) / 6f);
            Calls.due(x, "berthOf " + boat, 5 - boat);
            Calls.due(x, "boatIn " + (5 - boat), boat);
        }
        Calls.go(x, "addBoat 50 1 1 0");
        for (int boat = 0; boat < 6; boat++) {
            Calls.due(x, "liftReason 6 " + boat, 'o');
            Calls.due(x, "leastShifted " + boat, 0);
            Calls.due(x, "leastByRounds " + boat, 0);
            Calls.due(x, "launchReason " + boat, 'n');
        }
    }

    private static void eightBoatsWait() {
        BoatCradle x = highWater();
        int sum = 0;
        for (int boat = 0; boat < 8; boat++) {
            int draught = 100 + boat * boat;
            sum += draught;
            Calls.due(x, "addBoat " + draught + " " + (20 - boat) + " 1 0", boat);
            Calls.due(x, "meanDraught", (double) sum / (boat + 1));
            Calls.due(x, "nextWaiting", boat);
        }
        Calls.due(x, "addBoat 50 1 1 0", STATE);
        Calls.due(x, "nextWaiting", 7);
        Calls.go(x, "addBerth -1 200 40");
        for (int boat = 7; boat >= 0; boat--) {
            Calls.go(x, "lift " + boat + " 0", "pass 1", "launch " + boat, "pass 1");
            Calls.due(x, "nextWaiting", boat == 0 ? "NoSuchElementException" : boat - 1);
        }
        Calls.due(x, "meanDraught", "ArithmeticException");
        for (int boat = 7; boat >= 0; boat--) {
            Calls.due(x, "comeBack " + boat, 8 - boat);
            Calls.due(x, "nextWaiting", 7);
        }
        Calls.due(x, "meanDraught", sum / 8.0);
        Calls.due(x, "movedWeight", 2 * (20 + 19 + 18 + 17 + 16 + 15 + 14 + 13));
    }

    private static void sixBerthsUnderCoats() {
        BoatCradle x = highWater();
        for (int berth = 0; berth < 6; berth++) {
            Calls.go(x, "addBerth -1 200 40", "addBoat 50 1 1 0", "lift " + berth + " " + berth, "pass 1");
        }
        for (int boat = 0; boat < 6; boat++) {
            Calls.due(x, "paint " + boat + " " + (4 + boat), 1);
        }
        for (int hour = 6; hour <= 16; hour++) {
            for (int boat = 0; boat < 6; boat++) {
                Calls.due(x, "dryLeft " + boat, Math.max(0, 10 + boat - hour));
                Calls.due(x, "launchReason " + boat, 10 + boat > hour ? 'd' : 'n');
            }
            Calls.go(x, "pass 1");
        }
    }

    private static void sixSpans() {
        BoatCradle x = new BoatCradle();
        int[][] spans = {{40, 50}, {0, 1}, {45, 47}, {50, 52}, {9999, 10000}, {49, 51}};
        for (int span = 0; span < 6; span++) {
            Calls.due(x, "tellWeather " + spans[span][0] + " " + spans[span][1], span + 1);
        }
        Calls.due(x, "tellWeather 60 61", STATE);
        for (int hour = 0; hour <= 61; hour++) {
            Calls.due(x, "isBad " + hour, hour == 0 || hour >= 40 && hour < 52);
        }
        Calls.due(x, "isBad 9998", false);
        Calls.due(x, "isBad 9999", true);
        Calls.due(x, "forgetWeather", 6);
        Calls.goTo(x, 1);
        Calls.due(x, "tellWeather 60 61", STATE);
        Calls.due(x, "forgetWeather", 5);
        Calls.due(x, "tellWeather 60 61", 6);
        Calls.due(x, "tellWeather 60 61", STATE);
        int[][] left = {{46, 6}, {47, 5}, {49, 5}, {50, 4}, {51, 3}, {52, 2}, {60, 2}, {61, 1}, {9999, 1}};
        for (int[] at : left) {
            Calls.goTo(x, at[0]);
            Calls.due(x, "forgetWeather", at[1]);
        }
        Calls.due(x, "isBad 9999", true);
    }

    /** They count, and are asked for, until they are forgotten; forgetting takes just those. */
    private static void spansThatHavePassed() {
        BoatCradle x = Calls.after("tellWeather 0 2", "pass 2");
        Calls.due(x, "isBad 1", true);
        Calls.due(x, "tellWeather 2 3", 2);
        Calls.due(x, "forgetWeather", 1);
        Calls.due(x, "isBad 1", false);
        Calls.due(x, "isBad 2", true);
        Calls.due(x, "forgetWeather", 1);
        Calls.due(x, "pass 1", 3);
        for (int spans = 2; spans <= 6; spans++) {
            Calls.due(x, "tellWeather 3 4", spans);
        }
        Calls.due(x, "tellWeather 3 4", STATE);
        Calls.due(x, "pass 1", 4);
        Calls.due(x, "forgetWeather", 0);
        Calls.due(x, "isBad 3", false);
        for (int spans = 1; spans <= 6; spans++) {
            Calls.due(x, "tellWeather 4 " + (4 + spans), spans);
        }
        Calls.due(x, "tellWeather 4 11", STATE);
    }

    private static void objectsAreApart() {
        BoatCradle x = Calls.after("setTide 600 0 0", "addBerth -1 200 40", "addBoat 50 1 1 0", "lift 0 0",
            "tellWeather 1 2", "paint 0 5", "pass 1");
        BoatCradle y = Calls.after("addBerth -1 200 40", "addBoat 200 1 1 0");
        Calls.due(y, "time", 0);
        Calls.due(y, "level 0", 20);
        Calls.due(y, "isBad 1", false);
        Calls.due(y, "state 0", 'w');
        Calls.due(y, "movedWeight", 0);
        Calls.due(x, "state 0", 'b');
        Calls.due(x, "dryLeft 0", 4);
        Calls.due(x, "meanDraught", "ArithmeticException");
    }
}
