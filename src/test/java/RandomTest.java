import java.util.Arrays;
import java.util.Map;
import java.util.Random;
import java.util.TreeMap;

/** Runs of random calls, the same ones each time, compared with PlainYard call by call. */
final class RandomTest {
    private static final String[] CALLS = {
        "addBerth", "addBoat", "setTide", "setCradle", "tellWeather", "forgetWeather", "level", "isBad",
        "floodHours", "floodByHours", "nextFlood", "lift", "lift", "lift", "lift", "liftReason", "launch",
        "launchReason", "shift", "shift", "shiftReason", "shiftReason", "comeBack", "nextWaiting", "state",
        "berthOf", "boatIn", "paint", "dryLeft", "dryAt", "dryByHours", "pass", "pass", "pass", "time",
        "leastShifted", "leastByRounds", "movedWeight", "usedShare", "meanDraught",
    };
    private static final String[] CROWDED = {
        "lift", "lift", "lift", "pass", "pass", "pass", "shift", "shift", "paint", "launch", "comeBack", "comeBack",
        "setCradle", "leastShifted", "leastShifted", "leastByRounds", "leastByRounds", "shiftReason", "launchReason",
    };
    private static final int[] STRANGE = {Integer.MIN_VALUE, -2, -1, 0, 1, 6, 8, 10000, Integer.MAX_VALUE};

    private final Random random;
    private final Map<String, Integer> answers;
    private int hour = 0;

    private RandomTest(int seed, Map<String, Integer> answers) {
        random = new Random(seed);
        this.answers = answers;
    }

    public static void main(String[] args) {
        int runs = args.length > 0 ? Integer.parseInt(args[0]) : 1500;
        Map<String, Integer> answers = new TreeMap<>();
        int passed = 0;
        for (int seed = 0; seed < runs; seed++) {
            String wrong = new RandomTest(seed, answers).run();
            if (wrong != null) {
                System.out.println("run " + seed + ": " + wrong);
                System.out.println(passed + " passed, 1 failed");
                System.exit(1);
            }
            passed++;
        }
        if (args.length > 1) {
            answers.forEach((answer, count) -> System.out.println(answer + " " + count));
        }
        System.out.println(passed + " passed, 0 failed");
    }

    private String run() {
        BoatCradle real = new BoatCradle();
        PlainYard plain = new PlainYard();
        boolean roomy = random.nextInt(3) > 0;
        boolean crowded = random.nextInt(3) > 0;
        for (int count = 0; count < 512; count++) {
            String call = nextCall(count, crowded);
            int[] numbers = numbersOf(call, roomy);
            String got = Expect.answer(() -> Calls.call(real, call, numbers));
            String want = plain.answer(call, numbers);
            if (!got.equals(want)) {
                return "call " + count + ", " + call + Arrays.toString(numbers)
                    + " answered " + got + ", due is " + want;
            }
            hour = real.time();
            String kind = want.matches("-?[0-9.]+") ? "a number" + (want.equals("0") ? " 0" : "") : want;
            answers.merge(call + " " + kind, 1, Integer::sum);
        }
        return null;
    }

    private String nextCall(int count, boolean crowded) {
        if (crowded) {
            return count == 0 ? "setTide" : count < 15 ? CALLS[count % 2] : CROWDED[random.nextInt(CROWDED.length)];
        }
        return CALLS[random.nextInt(count < 16 && random.nextInt(3) > 0 ? 2 : CALLS.length)];
    }

    private int between(int least, int most) {
        switch (random.nextInt(60)) {
            case 0: return STRANGE[random.nextInt(STRANGE.length)];
            case 1: return least - 1;
            case 2: return most + 1;
            case 3: return least;
            case 4: return most;
            default: return least + random.nextInt(most - least + 1);
        }
    }

    private int[] numbersOf(String call, boolean roomy) {
        int boat = between(0, roomy ? 5 : 7);
        int berth = between(0, 5);
        switch (call) {
            case "addBerth": return new int[] {random.nextInt(3) == 0 ? -1 : between(-1, 4),
                between(roomy ? 60 : 1, 200), between(roomy ? 15 : 1, 40)};
            case "addBoat": return new int[] {between(50, roomy ? 200 : 400), between(1, roomy ? 110 : 200),
                between(1, roomy ? 25 : 40), between(0, random.nextBoolean() ? 2 : 9)};
            case "setTide": return random.nextInt(3) > 0 ? new int[] {600, 0, 0}
                : new int[] {between(0, 600), between(0, 60), between(0, 30)};
            case "setCradle": return new int[] {between(roomy ? 80 : 1, 200), between(0, 50)};
            case "tellWeather": return span();
            case "level":
            case "isBad": return new int[] {random.nextBoolean() ? between(0, 9999) : hour + between(-5, 20)};
            case "floodHours":
            case "floodByHours": return new int[] {boat, between(1, random.nextBoolean() ? 5000 : 700)};
            case "lift": case "liftReason": case "shift": case "shiftReason": return new int[] {boat, berth};
            case "paint": return new int[] {boat, between(4, random.nextInt(3) > 0 ? 8 : 48)};
            case "pass": return new int[] {random.nextInt(12) > 0 ? between(1, 3) : between(1, 336)};
            case "boatIn": return new int[] {berth};
            case "forgetWeather": case "nextWaiting": case "time": case "movedWeight": case "usedShare":
            case "meanDraught": return new int[0];
            default: return new int[] {boat};
        }
    }

    private int[] span() {
        int from = random.nextInt(8) > 0 ? hour + between(0, 12) : between(0, 9999);
        return new int[] {from, from + between(1, random.nextInt(8) > 0 ? 6 : 500)};
    }
}
