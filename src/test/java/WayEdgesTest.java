/** Promises 30 to 34 at their edges: clear ways, the lightest of several ways, boats shifted twice, no way at all. */
final class WayEdgesTest {
    private static final String NONE = "NoSuchElementException";

    public static void main(String[] args) {
        clearThoughNothingCanMove();
        blockedFromFarAhead();
        behindItsOwnBerth();
        besideTheWay();
        limitsOfShifts();
        capacityOfTheCradle();
        coatsInTheWay();
        neitherWeatherNorWaterNorMoves();
        boatsThatWaitAreNotInTheWay();
        aBoatTwice();
        theLightestOfSeveralWays();
        anyNumbers();
        fiveBoatsAndOneFreeBerth();
        heavyWays();
        shares();
        means();
        movedWeights();
        Expect.end();
    }

    /** A yard on high water with berths (front, weight, length) and boats (weight, length, berth) lifted in turn. */
    private static BoatCradle yard(int[][] berths, int[][] boats) {
        BoatCradle x = Calls.after("setTide 600 0 0", "setCradle 200 0");
        for (int[] berth : berths) {
            Calls.go(x, "addBerth " + berth[0] + " " + berth[1] + " " + berth[2]);
        }
        for (int boat = 0; boat < boats.length; boat++) {
            Calls.go(x, "addBoat 50 " + boats[boat][0] + " " + boats[boat][1] + " 0",
                "lift " + boat + " " + boats[boat][2], "pass 1");
        }
        return x;
    }

    private static void least(BoatCradle x, int boat, Object want) {
        Calls.due(x, "leastShifted " + boat, want);
        Calls.due(x, "leastByRounds " + boat, want);
    }

    /** 0 if the way is clear: with a wet coat, a small cradle, no water, bad weather, no free berth. */
    private static void clearThoughNothingCanMove() {
        BoatCradle x = yard(new int[][] {{-1, 50, 20}, {-1, 50, 20}}, new int[][] {{50, 20, 0}, {40, 20, 1}});
        Calls.go(x, "paint 0 48", "paint 1 48", "setCradle 1 50", "setTide 0 0 0", "tellWeather 2 9");
        least(x, 0, 0);
        least(x, 1, 0);
        BoatCradle front = yard(new int[][] {{-1, 50, 20}, {0, 50, 20}}, new int[][] {{9, 9, 0}});
        least(front, 0, 0);
        BoatCradle back = yard(new int[][] {{-1, 50, 20}, {0, 50, 20}, {1, 50, 20}}, new int[][] {{9, 9, 2}});
        least(back, 0, 0);
    }

    /** One boat in any berth of the row ahead bars the last one; a free berth at the cradle takes it. */
    private static void blockedFromFarAhead() {
        int[][] row = {{-1, 200, 40}, {0, 200, 40}, {1, 200, 40}, {2, 200, 40}, {3, 200, 40}};
        for (int ahead = 0; ahead < 4; ahead++) {
            BoatCradle x = yard(row, new int[][] {{7, 9, 4}, {11, 9, ahead}});
            least(x, 0, NONE);
            least(x, 1, 0);
            Calls.go(x, "addBerth -1 200 40");
            least(x, 0, 11);
        }
        BoatCradle all = yard(row, new int[][] {{1, 9, 4}, {2, 9, 3}, {4, 9, 2}, {8, 9, 1}, {16, 9, 0}});
        Calls.go(all, "addBerth -1 200 40");
        least(all, 4, 0);
        least(all, 3, 16);
        least(all, 2, NONE);
        least(all, 1, NONE);
        least(all, 0, NONE);
    }

    /** The berth that the boat leaves does not bar the one behind it. */
    private static void behindItsOwnBerth() {
        BoatCradle x = yard(new int[][] {{-1, 200, 40}, {0, 200, 40}, {0, 200, 40}}, new int[][] {{7, 9, 1}, {11, 9, 0}});
        least(x, 0, 11);
        Calls.go(x, "shift 1 2");
        least(x, 0, 0);
        least(x, 1, 0);
    }

    /** Boats behind the berth, and in rows that the way does not pass, are left where they are. */
    private static void besideTheWay() {
        BoatCradle x = yard(new int[][] {{-1, 200, 40}, {0, 200, 40}, {1, 200, 40}, {0, 200, 40}, {-1, 200, 40},
            {-1, 200, 40}}, new int[][] {{1, 9, 2}, {2, 9, 3}, {4, 9, 1}, {8, 9, 4}});
        least(x, 2, 0);
        least(x, 1, 0);
        least(x, 0, 4);
        least(x, 3, 0);
    }

    /** Weight and length that are just the limits of the berth, and one more. */
    private static void limitsOfShifts() {
        int[][] boats = {{1, 9, 1}, {30, 12, 0}};
        int[][][] others = {{{-1, 30, 12}, {30}}, {{-1, 29, 12}, {-1}}, {{-1, 30, 11}, {-1}}, {{-1, 200, 40}, {30}}};
        for (int[][] other : others) {
            BoatCradle x = yard(new int[][] {{-1, 200, 40}, {0, 200, 40}, other[0]}, boats);
            least(x, 0, other[1][0] < 0 ? NONE : other[1][0]);
        }
    }

    private static void capacityOfTheCradle() {
        BoatCradle x = yard(new int[][] {{-1, 200, 40}, {0, 200, 40}, {-1, 200, 40}},
            new int[][] {{200, 9, 1}, {30, 12, 0}});
        Calls.go(x, "setCradle 30 0");
        least(x, 0, 30);
        Calls.go(x, "setCradle 29 0");
        least(x, 0, NONE);
    }

    /** A wet boat stays, the one that wants out and others may be wet where they need not move. */
    private static void coatsInTheWay() {
        BoatCradle x = yard(new int[][] {{-1, 200, 40}, {0, 200, 40}, {-1, 200, 40}, {-1, 200, 40}},
            new int[][] {{200, 9, 1}, {30, 12, 0}, {5, 5, 3}});
        Calls.go(x, "paint 0 9", "paint 2 9");
        least(x, 0, 30);
        Calls.go(x, "paint 1 4");
        least(x, 0, NONE);
        Calls.go(x, "pass 3");
        least(x, 0, NONE);
        Calls.go(x, "pass 1");
        least(x, 0, 30);
    }

    private static void neitherWeatherNorWaterNorMoves() {
        BoatCradle x = yard(new int[][] {{-1, 200, 40}, {0, 200, 40}, {-1, 200, 40}},
            new int[][] {{7, 9, 1}, {30, 12, 0}});
        Calls.go(x, "shift 1 2", "pass 1", "shift 1 0", "tellWeather 3 10000", "setTide 0 60 30");
        least(x, 0, 30);
        Calls.due(x, "berthOf 1", 0);
        Calls.due(x, "movedWeight", 7 + 3 * 30);
        Calls.goTo(x, 9999);
        least(x, 0, 30);
    }

    private static void boatsThatWaitAreNotInTheWay() {
        BoatCradle x = yard(new int[][] {{-1, 200, 40}, {0, 200, 40}, {-1, 200, 40}}, new int[][] {{7, 9, 0}});
        Calls.go(x, "launch 0", "pass 1", "addBoat 50 1 1 0", "addBoat 50 5 1 0", "lift 2 1", "pass 1");
        least(x, 2, 0);
        least(x, 0, "IllegalStateException");
        least(x, 1, "IllegalStateException");
        Calls.go(x, "lift 1 0", "pass 1");
        least(x, 2, 1);
        Calls.go(x, "launch 1", "pass 1");
        least(x, 2, 0);
    }

    /**
     * Boat 2 must leave berth 0 for berth 1, so that boat 1 finds the only other berth that takes it, behind 0;
     * then boat 2 goes to berth 4: its weight is counted twice.
     */
    private static void aBoatTwice() {
        BoatCradle x = yard(new int[][] {{-1, 200, 11}, {0, 64, 40}, {0, 16, 40}, {1, 200, 40}, {-1, 200, 11}},
            new int[][] {{1, 9, 3}, {16, 11, 4}, {64, 9, 0}});
        least(x, 0, 2 * 64 + 16);
        Calls.go(x, "shift 2 1", "pass 1");
        least(x, 0, 64 + 16);
        Calls.go(x, "shift 1 2", "pass 1");
        least(x, 0, 64);
        Calls.go(x, "shift 2 4");
        least(x, 0, 0);
        Calls.due(x, "movedWeight", 1 + 16 + 64 + 64 + 16 + 64);
    }

    /** Found by comparison of ways: the first one that is met, or the one with the fewest shifts, is heavier. */
    private static void theLightestOfSeveralWays() {
        BoatCradle x = yard(new int[][] {{-1, 14, 10}, {0, 40, 10}, {-1, 40, 10}, {-1, 40, 10}, {1, 13, 10}},
            new int[][] {{2, 10, 4}, {7, 9, 3}, {7, 9, 1}});
        least(x, 0, 7);
        BoatCradle oneHeavyOrTwoLight = yard(
            new int[][] {{-1, 200, 40}, {0, 50, 40}, {-1, 50, 40}, {2, 200, 40}, {-1, 9, 40}},
            new int[][] {{1, 9, 1}, {5, 9, 2}, {50, 9, 0}});
        least(oneHeavyOrTwoLight, 0, 55);
        Calls.go(oneHeavyOrTwoLight, "addBerth -1 200 40");
        least(oneHeavyOrTwoLight, 0, 50);
    }

    /** The boat and the berth of number 0 take part like any other; boats in any order of berths are told apart. */
    private static void anyNumbers() {
        BoatCradle x = yard(new int[][] {{-1, 40, 10}, {-1, 40, 9}, {1, 40, 10}}, new int[][] {{1, 9, 0}});
        Calls.go(x, "launch 0", "pass 1", "comeBack 0", "addBoat 50 36 9 0", "lift 1 2", "pass 1", "lift 0 1");
        least(x, 1, 1);
        String[] twoRows = {"setTide 600 0 0", "addBerth -1 40 10", "addBerth -1 40 10", "addBerth 1 40 10",
            "addBerth 0 40 10", "addBoat 50 35 9 0", "addBoat 50 10 9 0", "addBoat 50 26 9 0"};
        BoatCradle y = Calls.after(twoRows);
        Calls.go(y, "lift 1 3", "pass 1", "lift 2 2", "pass 1", "lift 0 1");
        least(y, 2, 35);
        least(y, 1, 0);
        BoatCradle z = Calls.after("setTide 600 0 0", "addBerth -1 40 10", "addBerth -1 40 10", "addBerth 1 40 9",
            "addBerth -1 40 10", "addBerth 2 40 10", "addBoat 50 9 9 0", "addBoat 50 25 9 0", "addBoat 50 11 9 0");
        Calls.go(z, "lift 1 4", "pass 1", "lift 0 3", "pass 1", "lift 2 2");
        least(z, 1, 11);
        least(z, 0, 0);
        least(z, 2, 0);
    }

    /** 720 places at the most: six berths and five boats, all but one bar the rest. */
    private static void fiveBoatsAndOneFreeBerth() {
        BoatCradle x = yard(new int[][] {{-1, 200, 40}, {0, 200, 40}, {0, 200, 40}, {0, 200, 40}, {0, 200, 40},
            {0, 200, 40}}, new int[][] {{1, 9, 5}, {2, 9, 4}, {4, 9, 3}, {8, 9, 2}, {16, 9, 1}});
        for (int boat = 0; boat < 5; boat++) {
            least(x, boat, 0);
        }
        Calls.go(x, "shift 3 0");
        for (int boat = 0; boat < 5; boat++) {
            least(x, boat, boat == 3 ? 0 : 8);
        }
        BoatCradle full = yard(new int[][] {{-1, 200, 40}, {0, 200, 40}, {-1, 200, 40}, {2, 200, 40}, {-1, 200, 40},
            {4, 200, 40}}, new int[][] {{1, 9, 5}, {2, 9, 4}, {4, 9, 3}, {8, 9, 2}, {16, 9, 1}, {32, 9, 0}});
        for (int boat = 0; boat < 6; boat++) {
            least(full, boat, boat % 2 == 0 ? NONE : 0);
        }
    }

    /** The greatest weights: each of three boats ahead weighs 200. */
    private static void heavyWays() {
        BoatCradle x = yard(new int[][] {{-1, 200, 40}, {0, 200, 40}, {1, 200, 40}, {-1, 200, 40}, {3, 200, 40}},
            new int[][] {{200, 40, 2}, {200, 40, 1}, {200, 40, 0}});
        least(x, 0, 400);
        least(x, 1, 200);
        least(x, 2, 0);
    }

    private static void shares() {
        for (int berths = 1; berths <= 6; berths++) {
            BoatCradle x = Calls.after("setTide 600 0 0");
            for (int berth = 0; berth < berths; berth++) {
                Calls.go(x, "addBerth " + (berth - 1) + " 200 40", "addBoat 50 1 1 0");
            }
            Calls.due(x, "usedShare", 0f);
            for (int used = 1; used <= berths; used++) {
                Calls.go(x, "lift " + used % berths + " " + (berths - used), "pass 1");
                Calls.due(x, "usedShare", (float) used / (float) berths);
            }
        }
    }

    /** Of boats from 50 to 400, those in berths and away left out; not rounded. */
    private static void means() {
        BoatCradle x = Calls.after("setTide 600 0 0", "addBerth -1 200 40", "addBoat 50 1 1 0");
        Calls.due(x, "meanDraught", "50.0");
        Calls.go(x, "addBoat 400 1 1 0");
        Calls.due(x, "meanDraught", "225.0");
        Calls.go(x, "addBoat 51 1 1 0");
        Calls.due(x, "meanDraught", 501.0 / 3.0);
        Calls.go(x, "addBoat 51 1 1 0", "addBoat 51 1 1 0", "addBoat 51 1 1 0", "addBoat 51 1 1 0");
        Calls.due(x, "meanDraught", 705.0 / 7.0);
        Calls.go(x, "lift 1 0");
        Calls.due(x, "meanDraught", 305.0 / 6.0);
        Calls.go(x, "pass 1", "launch 1");
        Calls.due(x, "meanDraught", 305.0 / 6.0);
        Calls.go(x, "comeBack 1");
        Calls.due(x, "meanDraught", 705.0 / 7.0);
    }

    private static void movedWeights() {
        BoatCradle x = Calls.after("setTide 600 0 0", "setCradle 200 0", "addBerth -1 200 40", "addBoat 50 200 1 0",
            "addBoat 50 1 1 0");
        long want = 0;
        for (int round = 1; round <= 40; round++) {
            Calls.due(x, "lift 0 0", 2 * round - 1);
            want += 200;
            Calls.due(x, "movedWeight", want);
            Calls.go(x, "pass 1");
            Calls.due(x, "launch 0", 2 * round);
            want += 200;
            Calls.due(x, "movedWeight", want);
            Calls.go(x, "pass 1", "comeBack 0");
        }
        Calls.go(x, "lift 1 0");
        Calls.due(x, "movedWeight", want + 1);
    }
}
