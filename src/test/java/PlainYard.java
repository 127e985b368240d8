import java.util.ArrayList;
import java.util.HashMap;
import java.util.List;
import java.util.Map;

/** The document once more, in its plainest form, to compare BoatCradle with; answers and exceptions are texts. */
final class PlainYard {
    private static final String INDEX = "IndexOutOfBoundsException";
    private static final String ARGUMENT = "IllegalArgumentException";
    private static final String STATE = "IllegalStateException";
    private static final String ELEMENT = "NoSuchElementException";
    private static final String ARITHMETIC = "ArithmeticException";

    private static final class Berth {
        int front;
        int weight;
        int length;
    }

    private static final class Boat {
        int draught;
        int weight;
        int length;
        int rank;
        char state = 'w';
        int berth = -1;
        int left = 0;
        int coats = 0;
    }

    private final List<Berth> berths = new ArrayList<>();
    private final List<Boat> boats = new ArrayList<>();
    private final List<int[]> spans = new ArrayList<>();
    private final List<Integer> moved = new ArrayList<>();
    private int base = 200;
    private int first = 40;
    private int second = 10;
    private int capacity = 100;
    private int clearance = 10;
    private int time = 0;
    private boolean busy = false;

    String answer(String call, int... a) {
        switch (call) {
            case "addBerth": return addBerth(a[0], a[1], a[2]);
            case "addBoat": return addBoat(a[0], a[1], a[2], a[3]);
            case "setTide": return setTide(a[0], a[1], a[2]);
            case "setCradle": return setCradle(a[0], a[1]);
            case "tellWeather": return tellWeather(a[0], a[1]);
            case "forgetWeather":
                spans.removeIf(span -> span[1] - 1 < time);
                return "" + spans.size();
            case "level": return a[0] < 0 || a[0] > 9999 ? ARGUMENT : "" + level(a[0]);
            case "isBad": return a[0] < 0 || a[0] > 9999 ? ARGUMENT : "" + bad(a[0]);
            case "floodHours":
            case "floodByHours": return flood(a[0], a[1]);
            case "nextFlood": return nextFlood(a[0]);
            case "lift": return noPair(a) ? INDEX : move(a[0], a[1], liftReason(a[0], a[1]));
            case "liftReason": return noPair(a) ? INDEX : "" + liftReason(a[0], a[1]);
            case "launch": return noBoat(a[0]) ? INDEX : move(a[0], -1, launchReason(a[0]));
            case "launchReason": return noBoat(a[0]) ? INDEX : "" + launchReason(a[0]);
            case "shift": return noPair(a) ? INDEX : move(a[0], a[1], shiftReason(a[0], a[1]));
            case "shiftReason": return noPair(a) ? INDEX : "" + shiftReason(a[0], a[1]);
            case "comeBack": return comeBack(a[0]);
            case "nextWaiting": return nextWaiting();
            case "state": return noBoat(a[0]) ? INDEX : "" + boats.get(a[0]).state;
            case "berthOf": return berthOf(a[0]);
            case "boatIn": return noBerth(a[0]) ? INDEX : boatIn(a[0]) < 0 ? ELEMENT : "" + boatIn(a[0]);
            case "paint": return paint(a[0], a[1]);
            case "dryLeft": return noBoat(a[0]) ? INDEX : "" + boats.get(a[0]).left;
            case "dryAt":
            case "dryByHours": return noBoat(a[0]) ? INDEX : "" + dryAt(boats.get(a[0]).left);
            case "pass": return pass(a[0]);
            case "time": return "" + time;
            case "leastShifted":
            case "leastByRounds": return least(a[0]);
            case "movedWeight": return "" + moved.stream().mapToLong(weight -> weight).sum();
            case "usedShare": return usedShare();
            case "meanDraught": return meanDraught();
            default: throw new AssertionError(call);
        }
    }

    private boolean noBoat(int boat) {
        return boat < 0 || boat >= boats.size();
    }

    private boolean noBerth(int berth) {
        return berth < 0 || berth >= berths.size();
    }

    private boolean noPair(int[] a) {
        return noBoat(a[0]) || noBerth(a[1]);
    }

    private String addBerth(int front, int weight, int length) {
        if (front < -1 || front >= berths.size()) {
            return INDEX;
        }
        if (weight < 1 || weight > 200 || length < 1 || length > 40) {
            return ARGUMENT;
        }
        if (berths.size() == 6) {
            return STATE;
        }
        Berth berth = new Berth();
        berth.front = front;
        berth.weight = weight;
        berth.length = length;
        berths.add(berth);
        return "" + (berths.size() - 1);
    }

    private String addBoat(int draught, int weight, int length, int rank) {
        if (draught < 50 || draught > 400 || weight < 1 || weight > 200
                || length < 1 || length > 40 || rank < 0 || rank > 9) {
            return ARGUMENT;
        }
        if (boats.size() == 8) {
            return STATE;
        }
        Boat boat = new Boat();
        boat.draught = draught;
        boat.weight = weight;
        boat.length = length;
        boat.rank = rank;
        boats.add(boat);
        return "" + (boats.size() - 1);
    }

    private String setTide(int newBase, int newFirst, int newSecond) {
        if (newBase < 0 || newBase > 600 || newFirst < 0 || newFirst > 60 || newSecond < 0 || newSecond > 30) {
            return ARGUMENT;
        }
        base = newBase;
        first = newFirst;
        second = newSecond;
        return "" + level(time);
    }

    private String setCradle(int newCapacity, int newClearance) {
        if (newCapacity < 1 || newCapacity > 200 || newClearance < 0 || newClearance > 50) {
            return ARGUMENT;
        }
        int before = capacity;
        capacity = newCapacity;
        clearance = newClearance;
        return "" + before;
    }

    private String tellWeather(int from, int to) {
        if (from < time || from > 9999 || to <= from || to > 10000) {
            return ARGUMENT;
        }
        if (spans.size() == 6) {
            return STATE;
        }
        spans.add(new int[] {from, to});
        return "" + spans.size();
    }

    private int level(int hour) {
        int one = 6 - hour % 12;
        int two = 12 - hour % 25;
        return base + first * (3 - (one < 0 ? -one : one)) + second * (6 - (two < 0 ? -two : two));
    }

    private boolean bad(int hour) {
        return spans.stream().anyMatch(span -> span[0] <= hour && hour < span[1]);
    }

    private boolean water(Boat boat, int hour) {
        return !(level(hour) < boat.draught + clearance);
    }

    private String flood(int boat, int hours) {
        if (noBoat(boat)) {
            return INDEX;
        }
        if (hours < 1 || hours > 5000) {
            return ARGUMENT;
        }
        int count = 0;
        for (int hour = time; hour < time + hours; hour++) {
            count += water(boats.get(boat), hour) ? 1 : 0;
        }
        return "" + count;
    }

    private String nextFlood(int boat) {
        if (noBoat(boat)) {
            return INDEX;
        }
        for (int hour = time; hour - time <= 400; hour++) {
            if (!bad(hour) && water(boats.get(boat), hour)) {
                return "" + hour;
            }
        }
        return ELEMENT;
    }

    private int boatIn(int berth) {
        for (int boat = 0; boat < boats.size(); boat++) {
            if (boats.get(boat).berth == berth) {
                return boat;
            }
        }
        return -1;
    }

    /** Whether a berth in front of this one is occupied by another boat than one, in places of boats. */
    private boolean blocked(int[] place, int berth, int butBoat) {
        int front = berths.get(berth).front;
        if (front < 0) {
            return false;
        }
        for (int boat = 0; boat < place.length; boat++) {
            if (boat != butBoat && place[boat] == front) {
                return true;
            }
        }
        return blocked(place, front, butBoat);
    }

    private int[] place() {
        return boats.stream().mapToInt(boat -> boat.berth).toArray();
    }

    private char hourReason() {
        return bad(time) ? 'b' : busy ? 'c' : 'n';
    }

    private char liftReason(int number, int berth) {
        Boat boat = boats.get(number);
        if (boat.state != 'w') {
            return 'a';
        }
        if (boatIn(berth) >= 0) {
            return 'o';
        }
        if (blocked(place(), berth, -1)) {
            return 'f';
        }
        if (boat.weight > capacity || boat.weight > berths.get(berth).weight) {
            return 'w';
        }
        if (boat.length > berths.get(berth).length) {
            return 'l';
        }
        return water(boat, time) ? hourReason() : 't';
    }

    private char launchReason(int number) {
        Boat boat = boats.get(number);
        if (boat.state != 'b') {
            return 'a';
        }
        if (boat.left > 0) {
            return 'd';
        }
        if (blocked(place(), boat.berth, -1)) {
            return 'f';
        }
        if (boat.weight > capacity) {
            return 'w';
        }
        return water(boat, time) ? hourReason() : 't';
    }

    private char shiftReason(int boat, int berth) {
        char reason = shiftReasonIn(place(), boat, berth);
        return reason == 'n' ? hourReason() : reason;
    }

    private char shiftReasonIn(int[] place, int number, int berth) {
        Boat boat = boats.get(number);
        if (place[number] < 0) {
            return 'a';
        }
        if (boat.left > 0) {
            return 'd';
        }
        for (int berthOfAny : place) {
            if (berthOfAny == berth) {
                return 'o';
            }
        }
        if (blocked(place, place[number], number) || blocked(place, berth, number)) {
            return 'f';
        }
        if (boat.weight > capacity || boat.weight > berths.get(berth).weight) {
            return 'w';
        }
        return boat.length > berths.get(berth).length ? 'l' : 'n';
    }

    private String move(int boat, int berth, char reason) {
        if (reason != 'n') {
            return STATE;
        }
        boats.get(boat).berth = berth;
        boats.get(boat).state = berth < 0 ? 'a' : 'b';
        busy = true;
        moved.add(boats.get(boat).weight);
        return "" + moved.size();
    }

    private long waiting() {
        return boats.stream().filter(boat -> boat.state == 'w').count();
    }

    private String comeBack(int boat) {
        if (noBoat(boat)) {
            return INDEX;
        }
        if (boats.get(boat).state != 'a') {
            return STATE;
        }
        boats.get(boat).state = 'w';
        return "" + waiting();
    }

    private String nextWaiting() {
        for (int rank = 9; rank >= 0; rank--) {
            for (int weight = 1; weight <= 200; weight++) {
                for (int number = 0; number < boats.size(); number++) {
                    Boat boat = boats.get(number);
                    if (boat.state == 'w' && boat.rank == rank && boat.weight == weight) {
                        return "" + number;
                    }
                }
            }
        }
        return ELEMENT;
    }

    private String berthOf(int boat) {
        if (noBoat(boat)) {
            return INDEX;
        }
        return boats.get(boat).berth < 0 ? ELEMENT : "" + boats.get(boat).berth;
    }

    private String paint(int number, int hours) {
        if (noBoat(number)) {
            return INDEX;
        }
        if (hours < 4 || hours > 48) {
            return ARGUMENT;
        }
        Boat boat = boats.get(number);
        if (boat.state != 'b' || boat.left > 0 || bad(time)) {
            return STATE;
        }
        boat.left = hours;
        boat.coats++;
        return "" + boat.coats;
    }

    private int dryAt(int left) {
        int hour = time;
        for (int rest = left; rest > 0; hour++) {
            rest -= bad(hour) ? 0 : 1;
        }
        return hour;
    }

    private String pass(int hours) {
        if (hours < 1 || hours > 336 || time + hours > 9999) {
            return ARGUMENT;
        }
        for (int hour = 0; hour < hours; hour++) {
            for (Boat boat : boats) {
                boat.left = bad(time) || boat.left == 0 ? boat.left : boat.left - 1;
            }
            time++;
        }
        busy = false;
        return "" + time;
    }

    private String least(int boat) {
        if (noBoat(boat)) {
            return INDEX;
        }
        if (boats.get(boat).berth < 0) {
            return STATE;
        }
        Map<String, Integer> least = new HashMap<>();
        spread(place(), 0, least);
        int best = Integer.MAX_VALUE;
        for (Map.Entry<String, Integer> entry : least.entrySet()) {
            int[] place = new int[boats.size()];
            for (int other = 0; other < place.length; other++) {
                place[other] = entry.getKey().charAt(other) - 'b';
            }
            if (!blocked(place, place[boat], boat)) {
                best = Math.min(best, entry.getValue());
            }
        }
        return best == Integer.MAX_VALUE ? ELEMENT : "" + best;
    }

    /** Takes up again every place whose weight became less, in the order in which they did. */
    private void spread(int[] start, int weightOfStart, Map<String, Integer> least) {
        List<int[]> queue = new ArrayList<>();
        least.put(name(start), weightOfStart);
        queue.add(start);
        for (int next = 0; next < queue.size(); next++) {
            int[] place = queue.get(next);
            int weight = least.get(name(place));
            for (int boat = 0; boat < place.length; boat++) {
                for (int berth = 0; berth < berths.size(); berth++) {
                    if (shiftReasonIn(place, boat, berth) != 'n') {
                        continue;
                    }
                    int[] then = place.clone();
                    then[boat] = berth;
                    int newWeight = weight + boats.get(boat).weight;
                    if (newWeight < least.getOrDefault(name(then), Integer.MAX_VALUE)) {
                        least.put(name(then), newWeight);
                        queue.add(then);
                    }
                }
            }
        }
    }

    private static String name(int[] place) {
        StringBuilder name = new StringBuilder();
        for (int berth : place) {
            name.append((char) ('b' + berth));
        }
        return name.toString();
    }

    private String usedShare() {
        long used = boats.stream().filter(boat -> boat.berth >= 0).count();
        return berths.isEmpty() ? ARITHMETIC : "" + (float) used / (float) berths.size();
    }

    private String meanDraught() {
        int sum = boats.stream().filter(boat -> boat.state == 'w').mapToInt(boat -> boat.draught).sum();
        return waiting() == 0 ? ARITHMETIC : "" + (double) sum / (double) waiting();
    }
}
