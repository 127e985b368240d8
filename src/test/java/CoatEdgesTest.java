/** Promises 24 to 28: coats from the least to the greatest, and bad hours just before, in and after their hours. */
final class CoatEdgesTest {
    private static final String[] IN_A_BERTH = {
        "setTide 600 0 0", "addBerth -1 200 40", "addBoat 50 20 9 0", "addBoat 50 20 9 0", "lift 0 0", "pass 10",
    };

    public static void main(String[] args) {
        everyCoat();
        downToNothing();
        badHourByHour();
        oneBadHour();
        badFromNowOn();
        touchingSpans();
        spansInOneAnother();
        sixSpansApart();
        dryThoughBad();
        badUpToTheEnd();
        dryBeyondTheLastHour();
        spansThatAreForgotten();
        paintAgain();
        paintNearBadHours();
        coatsAcrossMoves();
        coatsOfEachBoat();
        Expect.end();
    }

    private static void dry(BoatCradle x, int want) {
        Calls.due(x, "dryAt 0", want);
        Calls.due(x, "dryByHours 0", want);
    }

    /** From 4 to 48 hours: the boat is wet up to the last one, and dry then. */
    private static void everyCoat() {
        for (int hours = 4; hours <= 48; hours++) {
            BoatCradle x = Calls.after(IN_A_BERTH);
            Calls.due(x, "paint 0 " + hours, 1);
            Calls.due(x, "dryLeft 0", hours);
            dry(x, 10 + hours);
            Calls.go(x, "pass " + (hours - 1));
            Calls.due(x, "dryLeft 0", 1);
            Calls.due(x, "launchReason 0", 'd');
            dry(x, 10 + hours);
            Calls.go(x, "pass 1");
            Calls.due(x, "dryLeft 0", 0);
            Calls.due(x, "launchReason 0", 'n');
            dry(x, 10 + hours);
            Calls.go(x, "pass 1");
            dry(x, 11 + hours);
        }
    }

    private static void downToNothing() {
        for (int hours : new int[] {4, 5, 6, 48, 336}) {
            BoatCradle x = Calls.after(IN_A_BERTH);
            Calls.go(x, "paint 0 4", "pass " + hours);
            Calls.due(x, "dryLeft 0", 0);
            dry(x, 10 + hours);
            Calls.due(x, "dryLeft 1", 0);
        }
    }

    /** Bad from 12 up to, but not including, 15. */
    private static void badHourByHour() {
        BoatCradle x = Calls.after(IN_A_BERTH);
        Calls.go(x, "paint 0 6", "tellWeather 12 15");
        int[] left = {6, 5, 4, 4, 4, 4, 3, 2, 1, 0, 0};
        for (int later = 0; later < left.length; later++) {
            Calls.due(x, "dryLeft 0", left[later]);
            dry(x, later == 10 ? 20 : 19);
            Calls.go(x, "pass 1");
        }
        for (int later = 1; later < left.length; later++) {
            BoatCradle y = Calls.after(IN_A_BERTH);
            Calls.go(y, "paint 0 6", "tellWeather 12 15", "pass " + later);
            Calls.due(y, "dryLeft 0", left[later]);
        }
    }

    /** One bad hour delays if it is before the boat is dry: in the first or the last hour, not in the one after. */
    private static void oneBadHour() {
        for (int bad = 10; bad <= 16; bad++) {
            BoatCradle x = Calls.after(IN_A_BERTH);
            Calls.go(x, "paint 0 4", "tellWeather " + bad + " " + (bad + 1));
            int want = bad <= 13 ? 15 : 14;
            dry(x, want);
            Calls.goTo(x, want - 1);
            Calls.due(x, "dryLeft 0", 1);
            Calls.goTo(x, want);
            Calls.due(x, "dryLeft 0", 0);
        }
    }

    private static void badFromNowOn() {
        BoatCradle x = Calls.after(IN_A_BERTH);
        Calls.go(x, "paint 0 4", "tellWeather 10 20");
        dry(x, 24);
        Calls.goTo(x, 15);
        dry(x, 24);
        Calls.goTo(x, 20);
        Calls.due(x, "dryLeft 0", 4);
        dry(x, 24);
    }

    private static void touchingSpans() {
        String[][] orders = {
            {"tellWeather 12 14", "tellWeather 14 16", "tellWeather 16 17"},
            {"tellWeather 16 17", "tellWeather 14 16", "tellWeather 12 14"},
            {"tellWeather 14 16", "tellWeather 16 17", "tellWeather 12 14"},
        };
        for (String[] spans : orders) {
            BoatCradle x = Calls.after(IN_A_BERTH);
            Calls.go(x, "paint 0 4");
            Calls.go(x, spans);
            dry(x, 19);
            Calls.go(x, "tellWeather 18 19");
            dry(x, 20);
            Calls.go(x, "tellWeather 19 20", "tellWeather 10 11");
            dry(x, 22);
        }
    }

    private static void spansInOneAnother() {
        BoatCradle x = Calls.after(IN_A_BERTH);
        Calls.go(x, "paint 0 4");
        String[] spans = {"tellWeather 12 20", "tellWeather 13 15", "tellWeather 12 20", "tellWeather 11 13",
            "tellWeather 19 21", "tellWeather 12 14"};
        int[] want = {22, 22, 22, 23, 24, 24};
        for (int span = 0; span < spans.length; span++) {
            Calls.go(x, spans[span]);
            dry(x, want[span]);
        }
    }

    /** As many stretches of good hours as there can be: one ahead of six spans, and one behind each. */
    private static void sixSpansApart() {
        BoatCradle x = Calls.after(IN_A_BERTH);
        for (int from = 11; from <= 21; from += 2) {
            Calls.go(x, "tellWeather " + from + " " + (from + 1));
        }
        Calls.go(x, "paint 0 6");
        dry(x, 21);
        BoatCradle y = Calls.after(IN_A_BERTH);
        for (int from = 21; from >= 11; from -= 2) {
            Calls.go(y, "tellWeather " + from + " " + (from + 1));
        }
        Calls.go(y, "paint 0 7");
        dry(y, 23);
        Calls.goTo(y, 22);
        Calls.due(y, "dryLeft 0", 1);
        dry(y, 23);
    }

    /** This hour, if it is dry: though it is bad, and wherever the boat is. */
    private static void dryThoughBad() {
        BoatCradle x = Calls.after(IN_A_BERTH);
        Calls.go(x, "tellWeather 10 30");
        for (int boat = 0; boat < 2; boat++) {
            Calls.due(x, "dryAt " + boat, 10);
            Calls.due(x, "dryByHours " + boat, 10);
        }
        Calls.goTo(x, 30);
        Calls.go(x, "launch 0");
        dry(x, 30);
        Calls.due(x, "dryLeft 0", 0);
        Calls.goTo(x, 9999);
        dry(x, 9999);
    }

    /** No hour from 10000 on is bad. */
    private static void badUpToTheEnd() {
        BoatCradle x = Calls.after(IN_A_BERTH);
        Calls.go(x, "paint 0 48", "tellWeather 11 10000");
        dry(x, 10047);
        Calls.go(x, "tellWeather 10 11");
        dry(x, 10048);
        Calls.goTo(x, 9999);
        Calls.due(x, "dryLeft 0", 48);
        dry(x, 10048);
        BoatCradle y = Calls.after(IN_A_BERTH);
        Calls.go(y, "paint 0 4", "tellWeather 11 9999");
        dry(y, 10002);
        Calls.go(y, "tellWeather 9999 10000");
        dry(y, 10003);
    }

    private static void dryBeyondTheLastHour() {
        for (int start : new int[] {9951, 9952, 9995, 9999}) {
            BoatCradle x = Calls.after(IN_A_BERTH);
            Calls.goTo(x, start);
            Calls.go(x, "paint 0 48");
            dry(x, start + 48);
            Calls.goTo(x, 9999);
            Calls.due(x, "dryLeft 0", 48 - (9999 - start));
            dry(x, start + 48);
        }
    }

    private static void spansThatAreForgotten() {
        BoatCradle x = Calls.after(IN_A_BERTH);
        Calls.go(x, "paint 0 9", "tellWeather 10 12", "tellWeather 11 15", "tellWeather 16 18", "pass 3");
        dry(x, 26);
        Calls.due(x, "forgetWeather", 2);
        dry(x, 26);
        Calls.go(x, "pass 2");
        Calls.due(x, "forgetWeather", 1);
        dry(x, 26);
    }

    private static void paintAgain() {
        BoatCradle x = Calls.after(IN_A_BERTH);
        for (int coat = 1; coat <= 12; coat++) {
            Calls.due(x, "paint 0 4", coat);
            Calls.due(x, "paint 0 4", "IllegalStateException");
            Calls.go(x, "pass 3");
            Calls.due(x, "paint 0 4", "IllegalStateException");
            Calls.due(x, "dryLeft 0", 1);
            Calls.go(x, "pass 1");
        }
    }

    /** The hour before a span and the one behind it are taken, though the cradle is busy. */
    private static void paintNearBadHours() {
        for (int hour = 12; hour <= 16; hour++) {
            BoatCradle x = Calls.after(IN_A_BERTH);
            Calls.go(x, "tellWeather 13 15");
            Calls.goTo(x, hour);
            Calls.due(x, "paint 0 4", hour == 13 || hour == 14 ? "IllegalStateException" : 1);
        }
        BoatCradle busy = Calls.after(IN_A_BERTH);
        Calls.go(busy, "addBerth -1 200 40", "lift 1 1", "setTide 0 0 0", "setCradle 1 50");
        Calls.due(busy, "paint 1 4", 1);
        Calls.due(busy, "paint 0 4", 1);
    }

    /** The coats of a boat are counted on when it is shifted, or comes back. */
    private static void coatsAcrossMoves() {
        BoatCradle x = Calls.after(IN_A_BERTH);
        Calls.go(x, "addBerth -1 200 40", "paint 0 4", "pass 4", "shift 0 1");
        Calls.due(x, "paint 0 4", 2);
        Calls.go(x, "pass 4", "launch 0", "comeBack 0", "pass 1", "lift 0 0");
        Calls.due(x, "dryLeft 0", 0);
        Calls.due(x, "paint 0 4", 3);
    }

    private static void coatsOfEachBoat() {
        BoatCradle x = Calls.after(IN_A_BERTH);
        Calls.go(x, "addBerth 0 200 40", "shift 0 1", "pass 1", "lift 1 0", "pass 1");
        Calls.due(x, "paint 0 4", 1);
        Calls.due(x, "paint 1 48", 1);
        Calls.go(x, "pass 4");
        Calls.due(x, "paint 0 4", 2);
        Calls.due(x, "dryLeft 1", 44);
        Calls.go(x, "pass 44");
        Calls.due(x, "paint 1 4", 2);
        Calls.due(x, "paint 0 4", 3);
    }
}
