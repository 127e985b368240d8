/** Promises 24 to 29: coats and hours. */
final class CoatsTest {
    public static void main(String[] args) {
        paint();
        dryLeft();
        dryAt();
        dryBehindTheLastHour();
        dryThroughManySpans();
        pass();
        Expect.end();
    }

    private static BoatCradle twoInBerths() {
        BoatCradle x = new BoatCradle();
        x.setTide(600, 0, 0);
        x.addBerth(-1, 200, 40);
        x.addBerth(-1, 200, 40);
        x.addBoat(50, 20, 9, 0);
        x.addBoat(50, 20, 9, 0);
        x.addBoat(50, 20, 9, 0);
        x.lift(0, 0);
        x.pass(1);
        x.lift(1, 1);
        x.pass(1);
        return x;
    }

    private static void paint() {
        BoatCradle x = twoInBerths();
        Expect.noBoat("paint(-1, 3)", () -> x.paint(-1, 3));
        Expect.noBoat("paint(3, 49)", () -> x.paint(3, 49));
        Expect.wrongNumber("paint(2, 3), it waits", () -> x.paint(2, 3));
        Expect.wrongNumber("paint(0, 3)", () -> x.paint(0, 3));
        Expect.wrongNumber("paint(0, 49)", () -> x.paint(0, 49));
        Expect.notPossible("paint(2, 4), it waits", () -> x.paint(2, 4));
        Expect.due("paint(0, 4)", 1, () -> x.paint(0, 4));
        Expect.notPossible("paint(0, 4), not dry", () -> x.paint(0, 4));
        Expect.wrongNumber("paint(0, 3), not dry", () -> x.paint(0, 3));
        Expect.due("paint(1, 48)", 1, () -> x.paint(1, 48));
        x.pass(3);
        Expect.notPossible("paint(0, 48), one hour left", () -> x.paint(0, 48));
        x.pass(1);
        x.tellWeather(6, 7);
        Expect.notPossible("paint(0, 48), bad", () -> x.paint(0, 48));
        Expect.due("dryLeft(0)", 0, () -> x.dryLeft(0));
        x.pass(1);
        Expect.due("paint(0, 5)", 2, () -> x.paint(0, 5));
        x.pass(5);
        x.launch(0);
        Expect.notPossible("paint(0, 5), away", () -> x.paint(0, 5));
        x.comeBack(0);
        x.pass(1);
        x.lift(0, 0);
        Expect.due("paint(0, 5), the coats so far", 3, () -> x.paint(0, 5));
    }

    private static void dryLeft() {
        BoatCradle x = twoInBerths();
        Expect.noBoat("dryLeft(-1)", () -> x.dryLeft(-1));
        Expect.noBoat("dryLeft(3)", () -> x.dryLeft(3));
        Expect.due("dryLeft(0)", 0, () -> x.dryLeft(0));
        Expect.due("dryLeft(2), it waits", 0, () -> x.dryLeft(2));
        x.paint(0, 10);
        x.pass(1);
        x.paint(1, 20);
        Expect.due("dryLeft(0)", 9, () -> x.dryLeft(0));
        x.tellWeather(4, 7);
        x.tellWeather(6, 9);
        x.pass(1);
        Expect.due("dryLeft(0) at 4", 8, () -> x.dryLeft(0));
        Expect.due("dryLeft(1) at 4", 19, () -> x.dryLeft(1));
        x.pass(5);
        Expect.due("dryLeft(0) at 9", 8, () -> x.dryLeft(0));
        x.pass(8);
        Expect.due("dryLeft(0) at 17", 0, () -> x.dryLeft(0));
        Expect.due("dryLeft(1) at 17", 11, () -> x.dryLeft(1));
        x.pass(100);
        Expect.due("dryLeft(1) at 117", 0, () -> x.dryLeft(1));
    }

    private static void bothDry(BoatCradle x, int boat, int want) {
        Expect.due("dryAt(" + boat + ") at " + x.time(), want, () -> x.dryAt(boat));
        Expect.due("dryByHours(" + boat + ") at " + x.time(), want, () -> x.dryByHours(boat));
    }

    private static void dryAt() {
        BoatCradle x = twoInBerths();
        Expect.noBoat("dryAt(-1)", () -> x.dryAt(-1));
        Expect.noBoat("dryAt(3)", () -> x.dryAt(3));
        Expect.noBoat("dryByHours(-1)", () -> x.dryByHours(-1));
        Expect.noBoat("dryByHours(3)", () -> x.dryByHours(3));
        bothDry(x, 0, 2);
        x.paint(0, 10);
        bothDry(x, 0, 12);
        x.tellWeather(12, 20);
        bothDry(x, 0, 12);
        x.tellWeather(11, 12);
        bothDry(x, 0, 21);
        x.tellWeather(2, 4);
        bothDry(x, 0, 23);
        bothDry(x, 1, 2);
        x.tellWeather(21, 22);
        x.tellWeather(22, 23);
        bothDry(x, 0, 25);
        x.tellWeather(2, 9999);
        bothDry(x, 0, 10009);
        x.pass(1);
        bothDry(x, 0, 10009);
        x.forgetWeather();
        bothDry(x, 0, 10009);
        bothDry(x, 2, 3);
    }

    private static void dryBehindTheLastHour() {
        BoatCradle x = twoInBerths();
        while (x.time() < 9999 - 336) {
            x.pass(336);
        }
        x.pass(9999 - x.time());
        x.paint(0, 48);
        bothDry(x, 0, 10047);
        x.tellWeather(9999, 10000);
        bothDry(x, 0, 10048);
        bothDry(x, 1, 9999);
    }

    /** Spans that lie apart, touch, overlap, or lie in one another, told in no order. */
    private static void dryThroughManySpans() {
        BoatCradle x = twoInBerths();
        x.paint(0, 48);
        x.tellWeather(40, 41);
        x.tellWeather(9, 11);
        x.tellWeather(7, 9);
        x.tellWeather(5, 8);
        x.tellWeather(30, 60);
        x.tellWeather(20, 22);
        bothDry(x, 0, 2 + 48 + 6 + 2 + 30);
        x.pass(28);
        bothDry(x, 0, 88);
        x.pass(40);
        bothDry(x, 0, 88);
        BoatCradle y = twoInBerths();
        y.paint(1, 4);
        y.tellWeather(12, 13);
        y.tellWeather(11, 12);
        y.tellWeather(8, 11);
        y.tellWeather(6, 8);
        y.tellWeather(4, 6);
        y.tellWeather(2, 4);
        bothDry(y, 1, 17);
        BoatCradle z = twoInBerths();
        z.paint(1, 7);
        for (int from = 3; from <= 13; from += 2) {
            z.tellWeather(from, from + 1);
        }
        bothDry(z, 1, 15);
    }

    private static void pass() {
        BoatCradle x = new BoatCradle();
        Expect.wrongNumber("pass(0)", () -> x.pass(0));
        Expect.wrongNumber("pass(-1)", () -> x.pass(-1));
        Expect.wrongNumber("pass(337)", () -> x.pass(337));
        Expect.wrongNumber("pass(greatest int)", () -> x.pass(Integer.MAX_VALUE));
        Expect.due("time", 0, () -> x.time());
        Expect.due("pass(1)", 1, () -> x.pass(1));
        Expect.due("time", 1, () -> x.time());
        for (int hour = 337; hour + 336 <= 9999; hour += 336) {
            int want = hour;
            Expect.due("pass(336)", want, () -> x.pass(336));
        }
        Expect.due("pass(336)", 9745, () -> x.pass(336));
        Expect.wrongNumber("pass(255), to 10000", () -> x.pass(255));
        Expect.wrongNumber("pass(336), to 10081", () -> x.pass(336));
        Expect.due("time", 9745, () -> x.time());
        Expect.due("pass(254), to 9999", 9999, () -> x.pass(254));
        Expect.wrongNumber("pass(1), to 10000", () -> x.pass(1));
        Expect.due("time", 9999, () -> x.time());
    }
}
