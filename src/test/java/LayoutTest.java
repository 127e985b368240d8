import java.util.Random;

/** The least weight to be shifted, for many yards that are filled from the back, compared with PlainYard. */
final class LayoutTest {
    private static final Random RANDOM = new Random(7);
    private static int ways = 0;
    private static int noWays = 0;

    public static void main(String[] args) {
        int layouts = args.length > 0 ? Integer.parseInt(args[0]) : 3000;
        for (int layout = 0; layout < layouts; layout++) {
            oneLayout(layout);
        }
        Expect.due("yards with a way out by shifts", true, () -> ways > layouts / 10);
        Expect.due("yards without a way out", true, () -> noWays > layouts / 10);
        Expect.end();
    }

    private static void oneLayout(int layout) {
        BoatCradle x = new BoatCradle();
        PlainYard plain = new PlainYard();
        x.setTide(600, 0, 0);
        plain.answer("setTide", 600, 0, 0);
        int berths = 3 + RANDOM.nextInt(4);
        for (int berth = 0; berth < berths; berth++) {
            int front = RANDOM.nextInt(4) == 0 ? -1 : RANDOM.nextInt(berth + 1) - 1;
            int weight = RANDOM.nextInt(4) == 0 ? 5 + RANDOM.nextInt(20) : 40;
            int length = RANDOM.nextInt(4) == 0 ? 5 + RANDOM.nextInt(20) : 40;
            x.addBerth(front, weight, length);
            plain.answer("addBerth", front, weight, length);
        }
        int boats = 2 + RANDOM.nextInt(berths - 1);
        for (int boat = 0; boat < boats; boat++) {
            int weight = 1 + RANDOM.nextInt(RANDOM.nextBoolean() ? 10 : 40);
            int length = 1 + RANDOM.nextInt(25);
            x.addBoat(50, weight, length, 0);
            plain.answer("addBoat", 50, weight, length, 0);
        }
        fillFromTheBack(x, plain, berths, boats);
        for (int boat = 0; boat < boats; boat++) {
            compare(layout, x, plain, boat);
        }
    }

    private static void fillFromTheBack(BoatCradle x, PlainYard plain, int berths, int boats) {
        int boat = 0;
        for (int berth = berths - 1; berth >= 0 && boat < boats; berth--) {
            if (RANDOM.nextInt(5) == 0) {
                continue;
            }
            for (int other = boat; other < boats; other++) {
                if (x.liftReason(other, berth) == 'n') {
                    x.lift(other, berth);
                    plain.answer("lift", other, berth);
                    x.pass(1);
                    plain.answer("pass", 1);
                }
            }
        }
        if (RANDOM.nextInt(3) == 0) {
            int wet = RANDOM.nextInt(boats);
            Expect.due("paint", plain.answer("paint", wet, 4), () -> x.paint(wet, 4));
        }
    }

    private static void compare(int layout, BoatCradle x, PlainYard plain, int boat) {
        String want = plain.answer("leastShifted", boat);
        Expect.due("layout " + layout + ": leastShifted(" + boat + ")", want, () -> x.leastShifted(boat));
        Expect.due("layout " + layout + ": leastByRounds(" + boat + ")", want, () -> x.leastByRounds(boat));
        if (want.equals("NoSuchElementException")) {
            noWays++;
        } else if (want.matches("[1-9][0-9]*")) {
            ways++;
        }
    }
}
