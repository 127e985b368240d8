/** All that can be seen of an object, by asking and then by further calls; less than 400 calls. */
final class Probe {
    private final BoatCradle x;
    private final StringBuilder seen = new StringBuilder();

    private Probe(BoatCradle x) {
        this.x = x;
    }

    static String of(BoatCradle x) {
        Probe probe = new Probe(x);
        probe.askWhatIsNow();
        probe.goOn();
        return probe.seen.toString();
    }

    private void see(String line) {
        seen.append(line).append(": ").append(Calls.answer(x, line)).append('\n');
    }

    private void askWhatIsNow() {
        for (String call : new String[] {"time", "movedWeight", "usedShare", "meanDraught", "nextWaiting"}) {
            see(call);
        }
        for (int boat = 0; boat < 8; boat++) {
            for (String call : new String[] {"state ", "berthOf ", "dryLeft ", "dryAt ", "launchReason ",
                "leastShifted "}) {
                see(call + boat);
            }
            see("floodHours " + boat + " 300");
            for (int berth = 0; berth < 6; berth++) {
                see("liftReason " + boat + " " + berth);
                see("shiftReason " + boat + " " + berth);
            }
        }
        for (int berth = 0; berth < 6; berth++) {
            see("boatIn " + berth);
        }
        for (int hour : new int[] {0, 6, 12, 18, 24, 25}) {
            see("level " + hour);
        }
        for (int later = -10; later <= 15; later++) {
            see("isBad " + (x.time() + later));
        }
        see("isBad 9998");
    }

    /** The numbers of moves, of spans and of coats, the capacity and the room left are answered by calls that act. */
    private void goOn() {
        see("tellWeather 9998 9999");
        see("forgetWeather");
        see("addBerth -1 200 40");
        see("addBoat 50 1 1 0");
        askForTheClearance();
        see("setCradle 200 0");
        see("setTide 600 0 0");
        see("pass 48");
        for (int round = 0; round < 2; round++) {
            for (int boat = 0; boat < 8; boat++) {
                see("launch " + boat);
                see("pass 1");
            }
        }
        for (int boat = 0; boat < 8; boat++) {
            see("comeBack " + boat);
        }
        for (int boat = 0; boat < 8; boat++) {
            see("lift " + boat + " " + (5 - boat % 6));
            see("pass 1");
            see("paint " + boat + " 4");
        }
        see("movedWeight");
    }

    /** By a tide of many levels: how often a boat floats tells what it needs. */
    private void askForTheClearance() {
        see("setTide 130 59 29");
        for (int boat = 0; boat < 8; boat++) {
            see("floodHours " + boat + " 300");
        }
    }
}
