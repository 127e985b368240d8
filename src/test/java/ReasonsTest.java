/**
 * Promises 13 to 18: each set of reasons that can apply together, in each way in which they can, and that the first
 * one is answered; where none applies, all else is as near to a reason as can be. A move is made only if none applies.
 */
final class ReasonsTest {
    private static final String STATE = "IllegalStateException";
    private static final String LIFT = "aofwltbc";
    private static final String LAUNCH = "adfwtbc";
    private static final String SHIFT = "adofwlbc";
    private static final int OWN = 1;
    private static final int OTHER = 2;

    public static void main(String[] args) {
        for (int set = 0; set < 1 << 8; set++) {
            for (int way = 1; way <= 3; way++) {
                lift(reasons(LIFT, set), way);
                shift(reasons(SHIFT, set), way);
            }
        }
        for (int set = 0; set < 1 << 7; set++) {
            for (int way = 1; way <= 3; way++) {
                launch(reasons(LAUNCH, set), way);
            }
        }
        Expect.end();
    }

    private static String reasons(String all, int set) {
        StringBuilder some = new StringBuilder();
        for (int index = 0; index < all.length(); index++) {
            if ((set >> index & 1) != 0) {
                some.append(all.charAt(index));
            }
        }
        return some.toString();
    }

    private static boolean has(String reasons, char reason) {
        return reasons.indexOf(reason) >= 0;
    }

    private static char first(String reasons) {
        return reasons.isEmpty() ? 'n' : reasons.charAt(0);
    }

    /** Boat 0 is the one to be moved; boats 1 to 3 stand in its way, 4 keeps the cradle busy, 5 is behind. */
    private static BoatCradle boatsOnHighWater() {
        return Calls.after("setTide 600 0 0", "addBoat 300 60 30 0", "addBoat 50 1 1 0",
            "addBoat 50 1 1 0", "addBoat 50 1 1 0", "addBoat 50 1 1 0",
            "addBoat 50 1 1 0");
    }

    private static void put(BoatCradle x, int boat, int berth) {
        Calls.go(x, "lift " + boat + " " + berth, "pass 1");
    }

    private static void launchAway(BoatCradle x, int berth) {
        put(x, 0, berth);
        Calls.go(x, "launch 0", "pass 1");
    }

    /** The hour before is bad, and the next one; a move was made in the one before, if not in this one. */
    private static void thisHour(BoatCradle x, String reasons) {
        int hour = x.time();
        boolean busy = has(reasons, 'c');
        if (!busy) {
            Calls.go(x, "lift 4 5");
        }
        Calls.go(x, "tellWeather " + hour + " " + (hour + 1), "pass 1");
        if (busy) {
            Calls.go(x, "lift 4 5");
        }
        hour++;
        Calls.go(x, "tellWeather " + (hour + 1) + " " + (hour + 3));
        if (has(reasons, 'b')) {
            Calls.go(x, "tellWeather " + hour + " " + (hour + 1));
        }
        Calls.go(x, "setTide " + (has(reasons, 't') ? 349 : 350) + " 0 0");
    }

    /** Into berth 2, behind 1, behind 0; a boat that does not wait is in berth 3, or away. */
    private static void lift(String reasons, int way) {
        boolean heavy = has(reasons, 'w');
        BoatCradle x = boatsOnHighWater();
        Calls.go(x, "addBerth -1 200 40", "addBerth 0 200 40",
            "addBerth 1 " + (heavy && way != OWN ? 59 : 60) + " " + (has(reasons, 'l') ? 29 : 30),
            "addBerth -1 200 40", "addBerth 2 200 40", "addBerth -1 200 40");
        put(x, 5, 4);
        if (has(reasons, 'a') && way == OWN) {
            put(x, 0, 3);
        } else if (has(reasons, 'a')) {
            launchAway(x, 3);
        }
        if (has(reasons, 'o')) {
            put(x, 1, 2);
        }
        if (has(reasons, 'f')) {
            frontOf(x, way);
        }
        thisHour(x, reasons);
        Calls.go(x, "setCradle " + (heavy && way != OTHER ? 59 : 60) + " 50");
        Calls.due(x, "liftReason 0 2", first(reasons));
        moved(x, "lift 0 2", reasons, 2);
    }

    /** A boat one berth ahead of berth 2, or two berths ahead, or both. */
    private static void frontOf(BoatCradle x, int way) {
        if (way != OWN) {
            put(x, 2, 1);
        }
        if (way != OTHER) {
            put(x, 3, 0);
        }
    }

    private static void moved(BoatCradle x, String move, String reasons, int berth) {
        String states = "" + Calls.answer(x, "state 0") + Calls.answer(x, "berthOf 0");
        int weight = (int) x.movedWeight();
        Expect.due(move + " for " + reasons, reasons.isEmpty(), () -> !Calls.answer(x, move).equals(STATE));
        Calls.due(x, "movedWeight", reasons.isEmpty() ? weight + 60 : weight);
        if (!reasons.isEmpty()) {
            Expect.due("state and berth after " + move, states,
                () -> "" + Calls.answer(x, "state 0") + Calls.answer(x, "berthOf 0"));
        } else if (berth >= 0) {
            Calls.due(x, "berthOf 0", berth);
            Calls.due(x, "boatIn " + berth, 0);
        } else {
            Calls.due(x, "state 0", 'a');
        }
    }

    /** A coat with one hour left, or one that got dry in the last good hour. */
    private static void coat(BoatCradle x, boolean wet) {
        Calls.go(x, "paint 0 4", wet ? "pass 3" : "pass 4");
    }

    /** From berth 2, behind 1, behind 0; a boat that is not in a berth has no wet coat, and no berth in front. */
    private static void launch(String reasons, int way) {
        boolean out = has(reasons, 'a');
        if (out && (has(reasons, 'd') || has(reasons, 'f'))) {
            return;
        }
        BoatCradle x = boatsOnHighWater();
        Calls.go(x, "addBerth -1 200 40", "addBerth 0 200 40", "addBerth 1 60 30",
            "addBerth -1 200 40", "addBerth 2 200 40", "addBerth -1 200 40");
        if (out && way == OWN) {
            launchAway(x, 3);
        }
        put(x, 5, 4);
        if (!out) {
            put(x, 0, 2);
            if (has(reasons, 'f')) {
                frontOf(x, way);
            }
            coat(x, has(reasons, 'd'));
        }
        thisHour(x, reasons);
        Calls.go(x, "setCradle " + (has(reasons, 'w') ? 59 : 60) + " 50");
        Calls.due(x, "launchReason 0", first(reasons));
        moved(x, "launch 0", reasons, -1);
    }

    /** From berth 2, behind 1, behind 0, to berth 4, behind 3; water is no reason. */
    private static void shift(String reasons, int way) {
        boolean out = has(reasons, 'a');
        if (out && has(reasons, 'd')) {
            return;
        }
        boolean heavy = has(reasons, 'w');
        BoatCradle x = boatsOnHighWater();
        Calls.go(x, "addBerth -1 200 40", "addBerth 0 200 40", "addBerth 1 60 30", "addBerth -1 200 40",
            "addBerth 3 " + (heavy && way != OWN ? 59 : 60) + " " + (has(reasons, 'l') ? 29 : 30),
            "addBerth -1 200 40");
        if (out && way == OWN) {
            launchAway(x, 2);
        }
        if (!out) {
            put(x, 0, 2);
        }
        if (has(reasons, 'o')) {
            put(x, 1, 4);
        }
        if (has(reasons, 'f')) {
            frontOfEither(x, out ? OTHER : way);
        }
        if (!out) {
            coat(x, has(reasons, 'd'));
        }
        thisHour(x, reasons);
        if (way == OTHER) {
            Calls.go(x, "setTide 0 0 0");
        }
        Calls.go(x, "setCradle " + (heavy && way != OTHER ? 59 : 60) + " 50");
        Calls.due(x, "shiftReason 0 4", first(reasons));
        if (has(reasons, 'o') && !out) {
            Calls.due(x, "shiftReason 0 2", has(reasons, 'd') ? 'd' : 'o');
        }
        moved(x, "shift 0 4", reasons, 4);
    }

    private static void frontOfEither(BoatCradle x, int way) {
        if (way != OTHER) {
            put(x, 2, 0);
        }
        if (way != OWN) {
            put(x, 3, 3);
        }
    }
}
