/** Numbers that come round: the hours of the tides, by 12, by 25 and by 300; and the hours up to the last one. */
final class HoursTest {
    public static void main(String[] args) {
        everyLevel(200, 40, 10);
        everyLevel(0, 60, 30);
        greatestAndLeastLevel();
        levelOfThisHour();
        floodsFromMany();
        floodsBeyondTheLastHour();
        floodsWithAllAndWithNoWater();
        nextFloodEachHour();
        nextFloodAtMost400Later();
        nextFloodBeyondTheLastHour();
        busyForOneHour();
        timeGoesOn();
        Expect.end();
    }

    /** Both parts by hours that are counted up and set back to 0, with a new object before calls are 512. */
    private static void everyLevel(int base, int first, int second) {
        BoatCradle x = null;
        int by12 = 0;
        int by25 = 0;
        for (int hour = 0; hour <= 9999; hour++) {
            if (hour % 500 == 0) {
                x = Calls.after("setTide " + base + " " + first + " " + second);
            }
            Calls.due(x, "level " + hour, base + first * (3 - away(6, by12)) + second * (6 - away(12, by25)));
            by12 = by12 == 11 ? 0 : by12 + 1;
            by25 = by25 == 24 ? 0 : by25 + 1;
        }
    }

    private static int away(int one, int other) {
        return one > other ? one - other : other - one;
    }

    private static void greatestAndLeastLevel() {
        BoatCradle x = Calls.after("setTide 600 60 30");
        Calls.due(x, "level 162", 600 + 180 + 180);
        Calls.due(x, "level 462", 960);
        Calls.go(x, "setTide 0 60 30");
        Calls.due(x, "level 0", -180 - 180);
        Calls.due(x, "level 300", -360);
        Calls.due(x, "level 9900", -360);
        Calls.go(x, "setTide 0 0 0");
        Calls.due(x, "level 0", 0);
        Calls.due(x, "level 9999", 0);
        Calls.go(x, "setTide 0 0 30");
        Calls.due(x, "level 11", 150);
        Calls.due(x, "level 12", 180);
        Calls.due(x, "level 13", 150);
        Calls.due(x, "level 24", -180);
        Calls.due(x, "level 25", -180);
        Calls.due(x, "level 26", -150);
        Calls.go(x, "setTide 0 60 0");
        Calls.due(x, "level 5", 120);
        Calls.due(x, "level 6", 180);
        Calls.due(x, "level 7", 120);
        Calls.due(x, "level 11", -120);
        Calls.due(x, "level 12", -180);
        Calls.due(x, "level 13", -120);
    }

    /** Promise 4: what setTide answers is the level of this hour, also of the last one. */
    private static void levelOfThisHour() {
        BoatCradle x = new BoatCradle();
        for (int hour : new int[] {0, 6, 11, 12, 24, 25, 299, 300, 9999}) {
            Calls.goTo(x, hour);
            int want = 7 + 5 * (3 - away(6, hour % 12)) + 2 * (6 - away(12, hour % 25));
            Calls.due(x, "setTide 7 5 2", want);
            Calls.due(x, "level " + hour, want);
        }
    }

    private static void floods(BoatCradle x, int boat, int need, int hours) {
        int want = 0;
        for (int hour = x.time(); hour < x.time() + hours; hour++) {
            int level = 200 + 40 * (3 - away(6, hour % 12)) + 10 * (6 - away(12, hour % 25));
            want += level >= need ? 1 : 0;
        }
        Calls.due(x, "floodHours " + boat + " " + hours, want);
        Calls.due(x, "floodByHours " + boat + " " + hours, want);
    }

    private static void floodsFromMany() {
        int[] numbers = {1, 2, 3, 11, 12, 13, 24, 25, 26, 299, 300, 301, 302, 599, 600, 601, 899, 900, 901, 4799,
            4800, 4801, 4999, 5000};
        for (int start : new int[] {0, 1, 6, 12, 24, 25, 150, 299, 300, 301, 4999, 5000}) {
            BoatCradle x = Calls.after("addBoat 50 1 1 0", "addBoat 190 1 1 0", "addBoat 340 1 1 0");
            Calls.goTo(x, start);
            for (int hours : numbers) {
                floods(x, 0, 60, hours);
                floods(x, 1, 200, hours);
                floods(x, 2, 350, hours);
            }
        }
    }

    /** Hours above 9999 count, and bad hours too. */
    private static void floodsBeyondTheLastHour() {
        for (int start : new int[] {9699, 9700, 9998, 9999}) {
            BoatCradle x = Calls.after("addBoat 190 1 1 0", "tellWeather 9000 10000", "tellWeather 0 5000");
            Calls.goTo(x, start);
            for (int hours : new int[] {1, 2, 3, 299, 300, 301, 302, 600, 4999, 5000}) {
                floods(x, 0, 200, hours);
            }
        }
    }

    private static void floodsWithAllAndWithNoWater() {
        BoatCradle x = Calls.after("addBoat 400 1 1 0", "setCradle 100 50");
        for (int hours : new int[] {1, 299, 300, 301, 5000}) {
            Calls.go(x, "setTide 450 0 0");
            Calls.due(x, "floodHours 0 " + hours, hours);
            Calls.due(x, "floodByHours 0 " + hours, hours);
            Calls.go(x, "setTide 449 0 0");
            Calls.due(x, "floodHours 0 " + hours, 0);
            Calls.due(x, "floodByHours 0 " + hours, 0);
        }
    }

    private static void nextFloodEachHour() {
        BoatCradle x = Calls.after("addBoat 190 1 1 0");
        for (int hour = 0; hour < 120; hour++) {
            int next = hour;
            while (x.level(next) < 200) {
                next++;
            }
            Calls.due(x, "nextFlood 0", next);
            if (hour % 40 == 39) {
                x = Calls.after("addBoat 190 1 1 0");
            }
            Calls.goTo(x, hour + 1);
        }
    }

    /** A boat that floats in one hour of 300: the next one is found up to 400 hours later, bad hours left out. */
    private static void nextFloodAtMost400Later() {
        String[] before = {"setTide 0 60 30", "setCradle 100 50", "addBoat 310 1 1 0", "addBoat 311 1 1 0"};
        BoatCradle x = Calls.after(before);
        Calls.due(x, "nextFlood 0", 162);
        Calls.due(x, "nextFlood 1", "NoSuchElementException");
        Calls.go(x, "tellWeather 162 163");
        Calls.due(x, "nextFlood 0", "NoSuchElementException");
        Calls.goTo(x, 61);
        Calls.due(x, "nextFlood 0", "NoSuchElementException");
        Calls.goTo(x, 62);
        Calls.due(x, "nextFlood 0", 462);
        Calls.go(x, "tellWeather 462 463");
        Calls.due(x, "nextFlood 0", "NoSuchElementException");
        Calls.goTo(x, 162);
        Calls.due(x, "nextFlood 0", "NoSuchElementException");
        BoatCradle y = Calls.after(before);
        Calls.goTo(y, 162);
        Calls.due(y, "nextFlood 0", 162);
        Calls.goTo(y, 163);
        Calls.due(y, "nextFlood 0", 462);
    }

    private static void nextFloodBeyondTheLastHour() {
        BoatCradle x = Calls.after("setTide 0 60 30", "setCradle 100 50", "addBoat 310 1 1 0");
        Calls.goTo(x, 9762);
        Calls.due(x, "nextFlood 0", 9762);
        Calls.goTo(x, 9763);
        Calls.due(x, "nextFlood 0", 10062);
        Calls.goTo(x, 9999);
        Calls.due(x, "nextFlood 0", 10062);
        Calls.go(x, "setTide 600 0 0");
        Calls.due(x, "nextFlood 0", 9999);
        Calls.go(x, "tellWeather 9999 10000");
        Calls.due(x, "nextFlood 0", 10000);
    }

    /** A move keeps the cradle busy in its own hour alone, the first and the last hour too. */
    private static void busyForOneHour() {
        BoatCradle x = Calls.after("setTide 600 0 0", "addBerth -1 200 40", "addBerth -1 200 40", "addBoat 50 1 1 0",
            "addBoat 50 1 1 0");
        Calls.due(x, "liftReason 0 0", 'n');
        Calls.due(x, "lift 0 0", 1);
        Calls.due(x, "liftReason 1 1", 'c');
        Calls.due(x, "launchReason 0", 'c');
        Calls.due(x, "shiftReason 0 1", 'c');
        Calls.goTo(x, 1);
        Calls.due(x, "shift 0 1", 2);
        Calls.due(x, "liftReason 1 0", 'c');
        Calls.due(x, "launchReason 0", 'c');
        Calls.due(x, "shiftReason 0 0", 'c');
        Calls.goTo(x, 2);
        Calls.due(x, "launch 0", 3);
        Calls.go(x, "comeBack 0");
        Calls.due(x, "liftReason 0 0", 'c');
        Calls.goTo(x, 9999);
        Calls.due(x, "lift 0 0", 4);
        Calls.due(x, "lift 1 1", "IllegalStateException");
        Calls.due(x, "launch 0", "IllegalStateException");
    }

    private static void timeGoesOn() {
        BoatCradle x = new BoatCradle();
        int want = 0;
        for (int hours : new int[] {1, 2, 335, 336, 12, 25, 300}) {
            want += hours;
            Calls.due(x, "pass " + hours, want);
            Calls.due(x, "time", want);
        }
        Calls.goTo(x, 9998);
        Calls.due(x, "pass 2", "IllegalArgumentException");
        Calls.due(x, "pass 1", 9999);
        Calls.due(x, "pass 1", "IllegalArgumentException");
        Calls.due(x, "time", 9999);
    }
}
