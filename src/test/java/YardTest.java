/** Promises 1 to 12: the yard, its tides and its weather. */
final class YardTest {
    public static void main(String[] args) {
        newObject();
        addBerth();
        addBoat();
        setTide();
        setCradle();
        tellWeather();
        forgetWeather();
        levels();
        badHours();
        floods();
        nextFlood();
        Expect.end();
    }

    private static void newObject() {
        BoatCradle x = new BoatCradle();
        Expect.due("time", 0, () -> x.time());
        Expect.due("movedWeight", 0, () -> x.movedWeight());
        Expect.noBoat("state(0)", () -> x.state(0));
        Expect.noBoat("boatIn(0)", () -> x.boatIn(0));
        Expect.due("usedShare", "ArithmeticException", () -> x.usedShare());
        Expect.due("meanDraught", "ArithmeticException", () -> x.meanDraught());
        Expect.noSuchElement("nextWaiting", () -> x.nextWaiting());
        Expect.due("forgetWeather", 0, () -> x.forgetWeather());
        Expect.due("isBad(0)", false, () -> x.isBad(0));
        Expect.due("level(0)", 20, () -> x.level(0));
        Expect.due("setCradle", 100, () -> x.setCradle(7, 0));
        BoatCradle other = new BoatCradle();
        Expect.due("another one's capacity", 100, () -> other.setCradle(1, 1));
    }

    private static void addBerth() {
        BoatCradle x = new BoatCradle();
        Expect.noBoat("addBerth(0, ..), the first", () -> x.addBerth(0, 1, 1));
        Expect.noBoat("addBerth(-2, ..)", () -> x.addBerth(-2, 1, 1));
        Expect.noBoat("addBerth(least int, 0, 0)", () -> x.addBerth(Integer.MIN_VALUE, 0, 0));
        Expect.wrongNumber("addBerth(-1, 0, 1)", () -> x.addBerth(-1, 0, 1));
        Expect.wrongNumber("addBerth(-1, 201, 1)", () -> x.addBerth(-1, 201, 1));
        Expect.wrongNumber("addBerth(-1, 1, 0)", () -> x.addBerth(-1, 1, 0));
        Expect.wrongNumber("addBerth(-1, 1, 41)", () -> x.addBerth(-1, 1, 41));
        Expect.due("addBerth(-1, 1, 1)", 0, () -> x.addBerth(-1, 1, 1));
        Expect.due("addBerth(0, 200, 40)", 1, () -> x.addBerth(0, 200, 40));
        Expect.noBoat("addBerth(2, 0, 0)", () -> x.addBerth(2, 0, 0));
        for (int berth = 2; berth < 6; berth++) {
            int front = berth - 1;
            Expect.due("addBerth(" + front + ", 5, 5)", berth, () -> x.addBerth(front, 5, 5));
        }
        Expect.notPossible("the seventh berth", () -> x.addBerth(-1, 5, 5));
        Expect.noBoat("the seventh berth behind itself", () -> x.addBerth(6, 0, 5));
        Expect.wrongNumber("the seventh berth of limit 0", () -> x.addBerth(5, 0, 5));
        Expect.due("usedShare", 0.0, () -> x.usedShare());
        Expect.noBoat("boatIn(6)", () -> x.boatIn(6));
    }

    private static void addBoat() {
        BoatCradle x = new BoatCradle();
        Expect.wrongNumber("draught 49", () -> x.addBoat(49, 1, 1, 0));
        Expect.wrongNumber("draught 401", () -> x.addBoat(401, 1, 1, 0));
        Expect.wrongNumber("weight 0", () -> x.addBoat(50, 0, 1, 0));
        Expect.wrongNumber("weight 201", () -> x.addBoat(50, 201, 1, 0));
        Expect.wrongNumber("length 0", () -> x.addBoat(50, 1, 0, 0));
        Expect.wrongNumber("length 41", () -> x.addBoat(50, 1, 41, 0));
        Expect.wrongNumber("rank -1", () -> x.addBoat(50, 1, 1, -1));
        Expect.wrongNumber("rank 10", () -> x.addBoat(50, 1, 1, 10));
        Expect.due("the least boat", 0, () -> x.addBoat(50, 1, 1, 0));
        Expect.due("the greatest boat", 1, () -> x.addBoat(400, 200, 40, 9));
        for (int boat = 2; boat < 8; boat++) {
            Expect.due("another boat", boat, () -> x.addBoat(100, 10, 10, 1));
        }
        Expect.notPossible("the ninth boat", () -> x.addBoat(100, 10, 10, 1));
        Expect.wrongNumber("the ninth boat of rank 10", () -> x.addBoat(100, 10, 10, 10));
        Expect.due("state(7)", 'w', () -> x.state(7));
        Expect.noBoat("state(8)", () -> x.state(8));
        Expect.due("meanDraught", 1050.0 / 8.0, () -> x.meanDraught());
    }

    private static void setTide() {
        BoatCradle x = new BoatCradle();
        Expect.wrongNumber("base -1", () -> x.setTide(-1, 0, 0));
        Expect.wrongNumber("base 601", () -> x.setTide(601, 0, 0));
        Expect.wrongNumber("first -1", () -> x.setTide(0, -1, 0));
        Expect.wrongNumber("first 61", () -> x.setTide(0, 61, 0));
        Expect.wrongNumber("second -1", () -> x.setTide(0, 0, -1));
        Expect.wrongNumber("second 31", () -> x.setTide(0, 0, 31));
        Expect.due("level(6) as at first", 320, () -> x.level(6));
        Expect.due("setTide(0, 60, 30)", -360, () -> x.setTide(0, 60, 30));
        Expect.due("pass(6)", 6, () -> x.pass(6));
        Expect.due("setTide(600, 60, 30)", 780, () -> x.setTide(600, 60, 30));
        Expect.due("setTide(0, 0, 0)", 0, () -> x.setTide(0, 0, 0));
    }

    private static void setCradle() {
        BoatCradle x = new BoatCradle();
        Expect.wrongNumber("capacity 0", () -> x.setCradle(0, 0));
        Expect.wrongNumber("capacity 201", () -> x.setCradle(201, 0));
        Expect.wrongNumber("clearance -1", () -> x.setCradle(1, -1));
        Expect.wrongNumber("clearance 51", () -> x.setCradle(1, 51));
        Expect.due("setCradle(1, 50)", 100, () -> x.setCradle(1, 50));
        Expect.due("setCradle(200, 0)", 1, () -> x.setCradle(200, 0));
        Expect.due("setCradle(50, 10)", 200, () -> x.setCradle(50, 10));
        x.addBerth(-1, 200, 40);
        x.addBoat(100, 50, 10, 0);
        x.addBoat(100, 51, 10, 0);
        x.setTide(110, 0, 0);
        Expect.due("a boat as heavy as the capacity", 'n', () -> x.liftReason(0, 0));
        Expect.due("a boat that is heavier", 'w', () -> x.liftReason(1, 0));
        x.setCradle(50, 11);
        Expect.due("with a greater clearance", 't', () -> x.liftReason(0, 0));
    }

    private static void tellWeather() {
        BoatCradle x = new BoatCradle();
        x.pass(5);
        Expect.wrongNumber("tellWeather(4, 8)", () -> x.tellWeather(4, 8));
        Expect.wrongNumber("tellWeather(-1, 8)", () -> x.tellWeather(-1, 8));
        Expect.wrongNumber("tellWeather(5, 5)", () -> x.tellWeather(5, 5));
        Expect.wrongNumber("tellWeather(6, 5)", () -> x.tellWeather(6, 5));
        Expect.wrongNumber("tellWeather(10000, 10001)", () -> x.tellWeather(10000, 10001));
        Expect.wrongNumber("tellWeather(10000, 10000)", () -> x.tellWeather(10000, 10000));
        Expect.wrongNumber("tellWeather(9999, 10001)", () -> x.tellWeather(9999, 10001));
        Expect.wrongNumber("tellWeather(5, greatest int)", () -> x.tellWeather(5, Integer.MAX_VALUE));
        Expect.due("tellWeather(5, 6)", 1, () -> x.tellWeather(5, 6));
        Expect.due("tellWeather(9999, 10000)", 2, () -> x.tellWeather(9999, 10000));
        Expect.due("pass(1)", 6, () -> x.pass(1));
        Expect.due("tellWeather(8, 10), one has passed", 3, () -> x.tellWeather(8, 10));
        Expect.due("the same one again", 4, () -> x.tellWeather(8, 10));
        Expect.due("tellWeather(20, 10000)", 5, () -> x.tellWeather(20, 10000));
        Expect.due("tellWeather(6, 7)", 6, () -> x.tellWeather(6, 7));
        Expect.notPossible("the seventh span", () -> x.tellWeather(6, 7));
        Expect.wrongNumber("the seventh span from 5", () -> x.tellWeather(5, 7));
        Expect.due("isBad(7)", false, () -> x.isBad(7));
    }

    private static void forgetWeather() {
        BoatCradle x = new BoatCradle();
        x.tellWeather(2, 4);
        x.tellWeather(3, 6);
        x.tellWeather(0, 1);
        x.tellWeather(5, 8);
        Expect.due("forgetWeather at 0", 4, () -> x.forgetWeather());
        x.pass(4);
        Expect.due("isBad(0), not forgotten", true, () -> x.isBad(0));
        Expect.due("forgetWeather at 4", 2, () -> x.forgetWeather());
        Expect.due("isBad(0)", false, () -> x.isBad(0));
        Expect.due("isBad(2)", false, () -> x.isBad(2));
        Expect.due("isBad(3)", true, () -> x.isBad(3));
        Expect.due("isBad(7)", true, () -> x.isBad(7));
        x.pass(1);
        Expect.due("forgetWeather at 5", 2, () -> x.forgetWeather());
        x.pass(1);
        Expect.due("forgetWeather at 6", 1, () -> x.forgetWeather());
        for (int spans = 2; spans <= 6; spans++) {
            Expect.due("tellWeather(6, 7)", spans, () -> x.tellWeather(6, 7));
        }
        Expect.notPossible("one span more", () -> x.tellWeather(6, 7));
        x.pass(1);
        Expect.due("forgetWeather at 7", 1, () -> x.forgetWeather());
        x.pass(1);
        Expect.due("forgetWeather at 8", 0, () -> x.forgetWeather());
        Expect.due("isBad(7)", false, () -> x.isBad(7));
    }

    private static void levels() {
        BoatCradle x = new BoatCradle();
        Expect.wrongNumber("level(-1)", () -> x.level(-1));
        Expect.wrongNumber("level(10000)", () -> x.level(10000));
        Expect.wrongNumber("level(least int)", () -> x.level(Integer.MIN_VALUE));
        Expect.due("level(0)", 20, () -> x.level(0));
        Expect.due("level(5)", 270, () -> x.level(5));
        Expect.due("level(6)", 320, () -> x.level(6));
        Expect.due("level(7)", 290, () -> x.level(7));
        Expect.due("level(11)", 170, () -> x.level(11));
        Expect.due("level(12)", 140, () -> x.level(12));
        Expect.due("level(13)", 170, () -> x.level(13));
        Expect.due("level(18)", 320, () -> x.level(18));
        Expect.due("level(24)", 20, () -> x.level(24));
        Expect.due("level(25)", 60, () -> x.level(25));
        Expect.due("level(300)", 20, () -> x.level(300));
        Expect.due("level(9999)", 140, () -> x.level(9999));
        x.setTide(0, 0, 30);
        Expect.due("level(12), second part", 180, () -> x.level(12));
        Expect.due("level(24), second part", -180, () -> x.level(24));
        x.setTide(0, 60, 0);
        Expect.due("level(12), first part", -180, () -> x.level(12));
        Expect.due("level(6), first part", 180, () -> x.level(6));
    }

    private static void badHours() {
        BoatCradle x = new BoatCradle();
        x.tellWeather(3, 5);
        x.tellWeather(5, 6);
        x.tellWeather(9998, 10000);
        Expect.wrongNumber("isBad(-1)", () -> x.isBad(-1));
        Expect.wrongNumber("isBad(10000)", () -> x.isBad(10000));
        Expect.due("isBad(2)", false, () -> x.isBad(2));
        Expect.due("isBad(3)", true, () -> x.isBad(3));
        Expect.due("isBad(4)", true, () -> x.isBad(4));
        Expect.due("isBad(5)", true, () -> x.isBad(5));
        Expect.due("isBad(6)", false, () -> x.isBad(6));
        Expect.due("isBad(9997)", false, () -> x.isBad(9997));
        Expect.due("isBad(9999)", true, () -> x.isBad(9999));
        x.pass(6);
        Expect.due("isBad(4), passed", true, () -> x.isBad(4));
    }

    private static void floods() {
        BoatCradle x = new BoatCradle();
        Expect.noBoat("floodHours(0, 0), no boat", () -> x.floodHours(0, 0));
        Expect.noBoat("floodByHours(0, 0), no boat", () -> x.floodByHours(0, 0));
        x.addBoat(150, 1, 1, 0);
        Expect.wrongNumber("floodHours(0, 0)", () -> x.floodHours(0, 0));
        Expect.wrongNumber("floodHours(0, 5001)", () -> x.floodHours(0, 5001));
        Expect.wrongNumber("floodByHours(0, 0)", () -> x.floodByHours(0, 0));
        Expect.wrongNumber("floodByHours(0, 5001)", () -> x.floodByHours(0, 5001));
        Expect.noBoat("floodHours(-1, 1)", () -> x.floodHours(-1, 1));
        Expect.noBoat("floodByHours(1, 1)", () -> x.floodByHours(1, 1));
        x.tellWeather(0, 9000);
        for (int hours : new int[] {1, 3, 4, 12, 25, 299, 300, 301, 600, 601, 899, 4999, 5000}) {
            int want = countFlood(x, 160, 0, hours);
            Expect.due("floodHours(0, " + hours + ")", want, () -> x.floodHours(0, hours));
            Expect.due("floodByHours(0, " + hours + ")", want, () -> x.floodByHours(0, hours));
        }
        while (x.time() < 9999 - 336) {
            x.pass(336);
        }
        x.pass(9999 - x.time());
        int want = countFlood(x, 160, 99, 5000);
        Expect.due("floodHours(0, 5000) at 9999", want, () -> x.floodHours(0, 5000));
        Expect.due("floodByHours(0, 5000) at 9999", want, () -> x.floodByHours(0, 5000));
        x.setTide(600, 0, 0);
        Expect.due("all 5000 hours", 5000, () -> x.floodHours(0, 5000));
        x.setTide(160, 0, 0);
        Expect.due("just enough water", 1, () -> x.floodByHours(0, 1));
        x.setTide(159, 0, 0);
        Expect.due("just too little water", 0, () -> x.floodByHours(0, 5000));
        Expect.due("just too little water by tides", 0, () -> x.floodHours(0, 5000));
    }

    /** From an hour on, by the levels of the first 300 hours, after which tides repeat. */
    private static int countFlood(BoatCradle x, int need, int from, int hours) {
        int count = 0;
        for (int hour = from; hour < from + hours; hour++) {
            if (x.level(hour % 300) >= need) {
                count++;
            }
        }
        return count;
    }

    private static void nextFlood() {
        BoatCradle x = new BoatCradle();
        Expect.noBoat("nextFlood(0)", () -> x.nextFlood(0));
        x.addBoat(150, 1, 1, 0);
        x.addBoat(400, 1, 1, 0);
        Expect.noBoat("nextFlood(2)", () -> x.nextFlood(2));
        Expect.noBoat("nextFlood(-1)", () -> x.nextFlood(-1));
        Expect.due("nextFlood(0)", 3, () -> x.nextFlood(0));
        Expect.noSuchElement("nextFlood(1)", () -> x.nextFlood(1));
        x.tellWeather(2, 6);
        Expect.due("nextFlood(0) behind bad weather", 6, () -> x.nextFlood(0));
        x.pass(6);
        Expect.due("nextFlood(0), this hour", 6, () -> x.nextFlood(0));
        x.setTide(600, 0, 0);
        x.tellWeather(6, 406);
        Expect.due("nextFlood(0) 400 hours later", 406, () -> x.nextFlood(0));
        x.tellWeather(406, 407);
        Expect.noSuchElement("nextFlood(0) 401 hours later", () -> x.nextFlood(0));
        x.setTide(200, 40, 10);
        while (x.time() < 9999 - 336) {
            x.pass(336);
        }
        x.pass(9999 - x.time());
        x.tellWeather(9999, 10000);
        Expect.due("nextFlood(0) at 9999", nextHigh(x, 160, 100) + 9900, () -> x.nextFlood(0));
    }

    private static int nextHigh(BoatCradle x, int need, int from) {
        int hour = from;
        while (x.level(hour) < need) {
            hour++;
        }
        return hour;
    }
}
