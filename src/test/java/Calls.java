/** Calls of the face told as texts, such as "lift 0 1", so that tests can hold whole runs of them in rows. */
final class Calls {
    private Calls() {
    }

    /** A new object after some calls, none of which may be refused. */
    static BoatCradle after(String... lines) {
        BoatCradle x = new BoatCradle();
        go(x, lines);
        return x;
    }

    /** Makes calls that prepare a test; one that is refused is a mistake in the test. */
    static void go(BoatCradle x, String... lines) {
        for (String line : lines) {
            String answer = answer(x, line);
            if (answer.endsWith("Exception")) {
                throw new AssertionError(line + " answered " + answer);
            }
        }
    }

    /** Lets hours pass up to one, in steps that pass takes. */
    static void goTo(BoatCradle x, int hour) {
        while (x.time() < hour) {
            x.pass(Math.min(336, hour - x.time()));
        }
    }

    static void due(BoatCradle x, String line, Object want) {
        Expect.due(line, want, () -> call(x, line));
    }

    static String answer(BoatCradle x, String line) {
        return Expect.answer(() -> call(x, line));
    }

    private static Object call(BoatCradle x, String line) {
        String[] words = line.split(" ");
        int[] numbers = new int[words.length - 1];
        for (int index = 0; index < numbers.length; index++) {
            numbers[index] = Integer.parseInt(words[index + 1]);
        }
        return call(x, words[0], numbers);
    }

    static Object call(BoatCradle x, String name, int... a) {
        switch (name) {
            case "addBerth": return x.addBerth(a[0], a[1], a[2]);
            case "addBoat": return x.addBoat(a[0], a[1], a[2], a[3]);
            case "setTide": return x.setTide(a[0], a[1], a[2]);
            case "setCradle": return x.setCradle(a[0], a[1]);
            case "tellWeather": return x.tellWeather(a[0], a[1]);
            case "forgetWeather": return x.forgetWeather();
            case "level": return x.level(a[0]);
            case "isBad": return x.isBad(a[0]);
            case "floodHours": return x.floodHours(a[0], a[1]);
            case "floodByHours": return x.floodByHours(a[0], a[1]);
            case "nextFlood": return x.nextFlood(a[0]);
            case "lift": return x.lift(a[0], a[1]);
            case "liftReason": return x.liftReason(a[0], a[1]);
            case "launch": return x.launch(a[0]);
            case "launchReason": return x.launchReason(a[0]);
            case "shift": return x.shift(a[0], a[1]);
            case "shiftReason": return x.shiftReason(a[0], a[1]);
            case "comeBack": return x.comeBack(a[0]);
            case "nextWaiting": return x.nextWaiting();
            case "state": return x.state(a[0]);
            case "berthOf": return x.berthOf(a[0]);
            case "boatIn": return x.boatIn(a[0]);
            case "paint": return x.paint(a[0], a[1]);
            case "dryLeft": return x.dryLeft(a[0]);
            case "dryAt": return x.dryAt(a[0]);
            case "dryByHours": return x.dryByHours(a[0]);
            case "pass": return x.pass(a[0]);
            case "time": return x.time();
            case "leastShifted": return x.leastShifted(a[0]);
            case "leastByRounds": return x.leastByRounds(a[0]);
            case "movedWeight": return x.movedWeight();
            case "usedShare": return x.usedShare();
            case "meanDraught": return x.meanDraught();
            default: throw new AssertionError(name);
        }
    }
}
