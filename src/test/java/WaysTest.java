/** Promises 30 to 34: ways out and figures. */
final class WaysTest {
    public static void main(String[] args) {
        wrongBoats();
        clearWays();
        onePath();
        intoAnotherRow();
        lightOnesTwice();
        barsOfShifts();
        neitherWaterNorWeatherNorCradle();
        manyPlaces();
        movedWeight();
        usedShare();
        meanDraught();
        Expect.end();
    }

    private static BoatCradle highWater() {
        BoatCradle x = new BoatCradle();
        x.setTide(600, 0, 0);
        return x;
    }

    private static void bothLeast(BoatCradle x, int boat, Object want) {
        Expect.due("leastShifted(" + boat + ")", want, () -> x.leastShifted(boat));
        Expect.due("leastByRounds(" + boat + ")", want, () -> x.leastByRounds(boat));
    }

    private static int boat(BoatCradle x, int weight, int length, int berth) {
        int boat = x.addBoat(50, weight, length, 0);
        x.lift(boat, berth);
        x.pass(1);
        return boat;
    }

    private static void wrongBoats() {
        BoatCradle x = highWater();
        bothLeast(x, 0, "IndexOutOfBoundsException");
        x.addBerth(-1, 200, 40);
        x.addBoat(50, 10, 10, 0);
        bothLeast(x, -1, "IndexOutOfBoundsException");
        bothLeast(x, 1, "IndexOutOfBoundsException");
        bothLeast(x, 0, "IllegalStateException");
        x.lift(0, 0);
        bothLeast(x, 0, 0);
        x.pass(1);
        x.launch(0);
        bothLeast(x, 0, "IllegalStateException");
    }

    private static void clearWays() {
        BoatCradle x = highWater();
        x.addBerth(-1, 200, 40);
        x.addBerth(0, 200, 40);
        x.addBerth(1, 200, 40);
        boat(x, 10, 10, 2);
        bothLeast(x, 0, 0);
        boat(x, 10, 10, 0);
        bothLeast(x, 0, "NoSuchElementException");
        bothLeast(x, 1, 0);
    }

    private static void onePath() {
        BoatCradle x = highWater();
        x.addBerth(-1, 200, 40);
        x.addBerth(0, 200, 40);
        x.addBerth(1, 200, 40);
        boat(x, 10, 10, 2);
        boat(x, 20, 10, 1);
        boat(x, 30, 10, 0);
        bothLeast(x, 0, "NoSuchElementException");
        x.addBerth(-1, 200, 40);
        bothLeast(x, 0, "NoSuchElementException");
        bothLeast(x, 1, 30);
        x.addBerth(3, 200, 40);
        bothLeast(x, 0, 50);
        bothLeast(x, 2, 0);
    }

    /** A boat must go behind another berth, so that the next one finds the only berth in which it fits. */
    private static void intoAnotherRow() {
        BoatCradle x = highWater();
        x.addBerth(-1, 60, 40);
        x.addBerth(0, 60, 40);
        x.addBerth(1, 60, 40);
        x.addBerth(-1, 60, 5);
        boat(x, 7, 5, 2);
        boat(x, 60, 5, 1);
        boat(x, 8, 6, 0);
        bothLeast(x, 1, "NoSuchElementException");
        x.addBerth(3, 60, 40);
        bothLeast(x, 1, 8);
        bothLeast(x, 0, 68);
        x.shift(2, 4);
        x.pass(1);
        bothLeast(x, 0, 60);
        bothLeast(x, 2, 0);
        x.shift(1, 3);
        bothLeast(x, 0, 0);
        bothLeast(x, 2, 60);
    }

    /** It costs less to shift light boats several times than a heavy one once. */
    private static void lightOnesTwice() {
        BoatCradle x = highWater();
        x.setCradle(200, 0);
        x.addBerth(-1, 200, 40);
        x.addBerth(0, 200, 40);
        x.addBerth(-1, 3, 40);
        x.addBerth(-1, 200, 40);
        x.addBerth(3, 200, 40);
        boat(x, 100, 10, 4);
        boat(x, 3, 10, 1);
        boat(x, 200, 10, 0);
        bothLeast(x, 1, 200);
        boat(x, 2, 10, 3);
        bothLeast(x, 1, 202);
        bothLeast(x, 0, 2);
    }

    private static void barsOfShifts() {
        BoatCradle x = highWater();
        x.addBerth(-1, 50, 20);
        x.addBerth(0, 50, 20);
        x.addBerth(-1, 39, 20);
        boat(x, 30, 10, 1);
        boat(x, 40, 10, 0);
        bothLeast(x, 0, "NoSuchElementException");
        x.addBerth(-1, 40, 9);
        bothLeast(x, 0, "NoSuchElementException");
        x.addBerth(-1, 40, 10);
        bothLeast(x, 0, 40);
        x.setCradle(39, 0);
        bothLeast(x, 0, "NoSuchElementException");
        x.setCradle(40, 0);
        x.paint(0, 4);
        bothLeast(x, 0, 40);
        x.paint(1, 5);
        bothLeast(x, 0, "NoSuchElementException");
        x.pass(4);
        bothLeast(x, 0, "NoSuchElementException");
        x.pass(1);
        bothLeast(x, 0, 40);
    }

    private static void neitherWaterNorWeatherNorCradle() {
        BoatCradle x = highWater();
        x.addBerth(-1, 50, 20);
        x.addBerth(0, 50, 20);
        x.addBerth(-1, 50, 20);
        boat(x, 30, 10, 1);
        x.addBoat(50, 40, 10, 0);
        x.lift(1, 0);
        x.tellWeather(x.time(), 9000);
        x.setTide(0, 0, 0);
        bothLeast(x, 0, 40);
        Expect.due("moves are only thought", 0, () -> x.berthOf(1));
        Expect.due("movedWeight", 70, () -> x.movedWeight());
        Expect.due("boatIn(0)", 1, () -> x.boatIn(0));
    }

    /** Five boats that can be shifted about, of which one never gets out, and the same with a way out. */
    private static void manyPlaces() {
        BoatCradle x = highWater();
        x.addBerth(-1, 20, 40);
        x.addBerth(0, 20, 40);
        x.addBerth(1, 20, 40);
        x.addBerth(-1, 10, 40);
        x.addBerth(-1, 10, 40);
        x.addBerth(-1, 10, 40);
        boat(x, 20, 9, 2);
        boat(x, 11, 9, 1);
        boat(x, 12, 9, 0);
        boat(x, 1, 9, 3);
        boat(x, 2, 9, 4);
        bothLeast(x, 0, "NoSuchElementException");
        bothLeast(x, 1, "NoSuchElementException");
        BoatCradle y = highWater();
        y.addBerth(-1, 20, 40);
        y.addBerth(0, 20, 40);
        y.addBerth(1, 20, 40);
        y.addBerth(-1, 1, 40);
        y.addBerth(3, 20, 40);
        y.addBerth(4, 20, 40);
        boat(y, 20, 9, 5);
        boat(y, 11, 9, 4);
        boat(y, 1, 9, 3);
        boat(y, 5, 9, 2);
        bothLeast(y, 1, 1);
        bothLeast(y, 0, 1 + 11);
        bothLeast(y, 2, 0);
        bothLeast(y, 3, 0);
    }

    private static void movedWeight() {
        BoatCradle x = highWater();
        Expect.due("movedWeight", 0, () -> x.movedWeight());
        x.addBerth(-1, 50, 20);
        x.addBerth(-1, 50, 20);
        boat(x, 30, 10, 1);
        Expect.due("movedWeight, lift", 30, () -> x.movedWeight());
        x.shift(0, 0);
        x.pass(1);
        Expect.due("movedWeight, shift", 60, () -> x.movedWeight());
        boat(x, 7, 10, 1);
        Expect.due("movedWeight, lift of another one", 67, () -> x.movedWeight());
        x.launch(0);
        Expect.due("movedWeight, launch", 97, () -> x.movedWeight());
        Expect.notPossible("launch(1), busy", () -> x.launch(1));
        Expect.due("movedWeight", 97, () -> x.movedWeight());
    }

    private static void usedShare() {
        BoatCradle x = highWater();
        Expect.due("usedShare", "ArithmeticException", () -> x.usedShare());
        x.addBerth(-1, 50, 20);
        x.addBerth(-1, 50, 20);
        x.addBerth(-1, 50, 20);
        Expect.due("usedShare, none", 0f, () -> x.usedShare());
        boat(x, 30, 10, 1);
        Expect.due("usedShare, one of three", 1f / 3f, () -> x.usedShare());
        boat(x, 30, 10, 0);
        Expect.due("usedShare, two of three", 2f / 3f, () -> x.usedShare());
        boat(x, 30, 10, 2);
        Expect.due("usedShare, all", 1f, () -> x.usedShare());
        x.launch(0);
        Expect.due("usedShare, two of three", 2f / 3f, () -> x.usedShare());
    }

    private static void meanDraught() {
        BoatCradle x = highWater();
        Expect.due("meanDraught", "ArithmeticException", () -> x.meanDraught());
        x.addBerth(-1, 50, 20);
        x.addBoat(100, 10, 10, 0);
        Expect.due("meanDraught of one", 100.0, () -> x.meanDraught());
        x.addBoat(101, 10, 10, 0);
        x.addBoat(103, 10, 10, 0);
        Expect.due("meanDraught of three", 304.0 / 3.0, () -> x.meanDraught());
        x.lift(0, 0);
        Expect.due("meanDraught of two", 102.0, () -> x.meanDraught());
        x.pass(1);
        x.launch(0);
        Expect.due("meanDraught without one away", 102.0, () -> x.meanDraught());
        x.comeBack(0);
        Expect.due("meanDraught of three", 304.0 / 3.0, () -> x.meanDraught());
        BoatCradle y = highWater();
        y.addBerth(-1, 50, 20);
        boat(y, 10, 10, 0);
        Expect.due("meanDraught, none waits", "ArithmeticException", () -> y.meanDraught());
    }
}
