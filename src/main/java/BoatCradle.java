import java.util.Arrays;
import java.util.NoSuchElementException;

/** A planner for the cradle of a shipyard; ../shared/DOC.md says what each method promises. */
public final class BoatCradle {
    private static final int MOST_BERTHS = 6;
    private static final int MOST_BOATS = 8;
    private static final int MOST_SPANS = 6;
    private static final int LAST_HOUR = 9999;
    private static final int TIDE_REPEATS = 300;
    private static final int FLOOD_SEARCH = 400;
    // Six berths hold at most 6! places of boats, whether five or six of them are taken.
    private static final int MOST_PLACES = 720;
    // No weight of a way comes near it: 720 places lie on a way at the most, and a boat weighs 200 at the most.
    private static final int NOT_REACHED = 1000000;
    // An hour far behind all that can be asked for.
    private static final int NEVER = 1000000;
    private static final int NO_WAY = -1;
    private static final int NO_BERTH = -1;
    private static final int WAITS = -1;
    private static final int AWAY = -2;

    private final Tide tide;
    private final Weather weather;
    private final Berths berths;
    private final Boats boats;
    private final Places places;
    private int capacity;
    private int clearance;
    private int now;
    private int hourOfMove;
    private int moves;
    private long weightMoved;

    public BoatCradle() {
        tide = new Tide();
        weather = new Weather();
        berths = new Berths();
        boats = new Boats();
        places = new Places();
        capacity = 100;
        clearance = 10;
        now = 0;
        hourOfMove = -1;
        moves = 0;
        weightMoved = 0;
    }

    // ---- yard

    public int addBerth(int front, int weight, int length)
            throws IndexOutOfBoundsException, IllegalArgumentException, IllegalStateException {
        if (front != NO_BERTH && !berths.has(front)) {
            throw new IndexOutOfBoundsException("no such berth in front");
        }
        if (outside(weight, 1, 200) || outside(length, 1, 40)) {
            throw new IllegalArgumentException("a limit is out of range");
        }
        if (berths.count >= MOST_BERTHS) {
            throw new IllegalStateException("no more berths");
        }
        return berths.append(front, weight, length);
    }

    public int addBoat(int draught, int weight, int length, int rank)
            throws IllegalArgumentException, IllegalStateException {
        if (outside(draught, 50, 400) || outside(weight, 1, 200)
                || outside(length, 1, 40) || outside(rank, 0, 9)) {
            throw new IllegalArgumentException("a number is out of range");
        }
        if (boats.count >= MOST_BOATS) {
            throw new IllegalStateException("no more boats");
        }
        return boats.append(draught, weight, length, rank);
    }

    public int setTide(int base, int first, int second) throws IllegalArgumentException {
        if (outside(base, 0, 600) || outside(first, 0, 60) || outside(second, 0, 30)) {
            throw new IllegalArgumentException("a number is out of range");
        }
        tide.base = base;
        tide.first = first;
        tide.second = second;
        return tide.levelAt(now);
    }

    public int setCradle(int capacity, int clearance) throws IllegalArgumentException {
        if (outside(capacity, 1, 200) || outside(clearance, 0, 50)) {
            throw new IllegalArgumentException("a number is out of range");
        }
        int before = this.capacity;
        this.capacity = capacity;
        this.clearance = clearance;
        return before;
    }

    public int tellWeather(int from, int to) throws IllegalArgumentException, IllegalStateException {
        if (outside(from, now, LAST_HOUR) || to <= from || to > LAST_HOUR + 1) {
            throw new IllegalArgumentException("an hour is out of range");
        }
        if (weather.count >= MOST_SPANS) {
            throw new IllegalStateException("no more spans");
        }
        return weather.append(from, to);
    }

    public int forgetWeather() {
        return weather.keepFrom(now);
    }

    public int level(int hour) throws IllegalArgumentException {
        checkHour(hour);
        return tide.levelAt(hour);
    }

    public boolean isBad(int hour) throws IllegalArgumentException {
        checkHour(hour);
        return weather.badAt(hour);
    }

    public int floodHours(int boat, int hours) throws IndexOutOfBoundsException, IllegalArgumentException {
        checkFlood(boat, hours);
        int wholeTides = hours / TIDE_REPEATS;
        int rest = hours % TIDE_REPEATS;
        return wholeTides * countFlood(boat, TIDE_REPEATS) + countFlood(boat, rest);
    }

    public int floodByHours(int boat, int hours) throws IndexOutOfBoundsException, IllegalArgumentException {
        checkFlood(boat, hours);
        return countFlood(boat, hours);
    }

    public int nextFlood(int boat) throws IndexOutOfBoundsException, NoSuchElementException {
        checkBoat(boat);
        for (int later = 0; later <= FLOOD_SEARCH; later++) {
            int hour = now + later;
            if (!weather.badAt(hour) && enoughWater(boat, hour)) {
                return hour;
            }
        }
        throw new NoSuchElementException("no flood");
    }

    // ---- moves

    public int lift(int boat, int berth) throws IndexOutOfBoundsException, IllegalStateException {
        checkBoatAndBerth(boat, berth);
        if (liftBar(boat, berth) != 'n') {
            throw new IllegalStateException("the lift is not possible");
        }
        boats.berth[boat] = berth;
        berths.boat[berth] = boat;
        return countMove(boat);
    }

    public char liftReason(int boat, int berth) throws IndexOutOfBoundsException {
        checkBoatAndBerth(boat, berth);
        return liftBar(boat, berth);
    }

    public int launch(int boat) throws IndexOutOfBoundsException, IllegalStateException {
        checkBoat(boat);
        int berth = boats.berth[boat];
        if (!berths.has(berth) || launchBar(boat, berth) != 'n') {
            throw new IllegalStateException("the launch is not possible");
        }
        berths.boat[berth] = Berths.EMPTY;
        boats.berth[boat] = AWAY;
        return countMove(boat);
    }

    public char launchReason(int boat) throws IndexOutOfBoundsException {
        checkBoat(boat);
        int berth = boats.berth[boat];
        return berths.has(berth) ? launchBar(boat, berth) : 'a';
    }

    public int shift(int boat, int berth) throws IndexOutOfBoundsException, IllegalStateException {
        checkBoatAndBerth(boat, berth);
        int from = boats.berth[boat];
        if (!berths.has(from) || shiftBar(boat, from, berth) != 'n') {
            throw new IllegalStateException("the shift is not possible");
        }
        berths.boat[from] = Berths.EMPTY;
        berths.boat[berth] = boat;
        boats.berth[boat] = berth;
        return countMove(boat);
    }

    public char shiftReason(int boat, int berth) throws IndexOutOfBoundsException {
        checkBoatAndBerth(boat, berth);
        int from = boats.berth[boat];
        return berths.has(from) ? shiftBar(boat, from, berth) : 'a';
    }

    public int comeBack(int boat) throws IndexOutOfBoundsException, IllegalStateException {
        checkBoat(boat);
        if (boats.berth[boat] != AWAY) {
            throw new IllegalStateException("the boat is not away");
        }
        boats.berth[boat] = WAITS;
        return boats.countWaiting();
    }

    public int nextWaiting() throws NoSuchElementException {
        int next = boats.firstInLine();
        if (!boats.has(next)) {
            throw new NoSuchElementException("no boat waits");
        }
        return next;
    }

    public char state(int boat) throws IndexOutOfBoundsException {
        checkBoat(boat);
        if (boats.berth[boat] == WAITS) {
            return 'w';
        }
        return boats.berth[boat] == AWAY ? 'a' : 'b';
    }

    public int berthOf(int boat) throws IndexOutOfBoundsException, NoSuchElementException {
        checkBoat(boat);
        if (!berths.has(boats.berth[boat])) {
            throw new NoSuchElementException("the boat is not in a berth");
        }
        return boats.berth[boat];
    }

    public int boatIn(int berth) throws IndexOutOfBoundsException, NoSuchElementException {
        checkBerth(berth);
        if (berths.boat[berth] == Berths.EMPTY) {
            throw new NoSuchElementException("the berth is empty");
        }
        return berths.boat[berth];
    }

    // ---- coats and hours

    public int paint(int boat, int hours)
            throws IndexOutOfBoundsException, IllegalArgumentException, IllegalStateException {
        checkBoat(boat);
        if (outside(hours, 4, 48)) {
            throw new IllegalArgumentException("the number is out of range");
        }
        if (!berths.has(boats.berth[boat]) || boats.left[boat] > 0 || weather.badAt(now)) {
            throw new IllegalStateException("the boat cannot be painted");
        }
        boats.left[boat] = hours;
        boats.coats[boat]++;
        return boats.coats[boat];
    }

    public int dryLeft(int boat) throws IndexOutOfBoundsException {
        checkBoat(boat);
        return boats.left[boat];
    }

    public int dryAt(int boat) throws IndexOutOfBoundsException {
        checkBoat(boat);
        return weather.dryBySpans(now, boats.left[boat]);
    }

    public int dryByHours(int boat) throws IndexOutOfBoundsException {
        checkBoat(boat);
        return weather.dryHourByHour(now, boats.left[boat]);
    }

    public int pass(int hours) throws IllegalArgumentException {
        if (outside(hours, 1, 336) || now + hours > LAST_HOUR) {
            throw new IllegalArgumentException("the number is out of range");
        }
        for (int passed = 0; passed < hours; passed++) {
            if (!weather.badAt(now)) {
                boats.dryOneHour();
            }
            now++;
        }
        return now;
    }

    public int time() {
        return now;
    }

    // ---- ways out and figures

    public int leastShifted(int boat)
            throws IndexOutOfBoundsException, IllegalStateException, NoSuchElementException {
        checkBoatInBerth(boat);
        int least = hasClearWay(boat) ? 0 : leastFirst(boat);
        if (least == NO_WAY) {
            throw new NoSuchElementException("no clear way");
        }
        return least;
    }

    public int leastByRounds(int boat)
            throws IndexOutOfBoundsException, IllegalStateException, NoSuchElementException {
        checkBoatInBerth(boat);
        int least = hasClearWay(boat) ? 0 : leastOfRounds(boat);
        if (least == NO_WAY) {
            throw new NoSuchElementException("no clear way");
        }
        return least;
    }

    public long movedWeight() {
        return weightMoved;
    }

    public float usedShare() throws ArithmeticException {
        if (berths.count == 0) {
            throw new ArithmeticException("no berths");
        }
        return (float) Integer.bitCount(berths.occupied()) / (float) berths.count;
    }

    public double meanDraught() throws ArithmeticException {
        int waiting = boats.countWaiting();
        if (waiting == 0) {
            throw new ArithmeticException("no boat waits");
        }
        return (double) boats.sumWaitingDraughts() / (double) waiting;
    }

    // ---- what the calls look at before they act

    private static boolean outside(int number, int least, int most) {
        return number < least || number > most;
    }

    private void checkBoat(int boat) {
        if (!boats.has(boat)) {
            throw new IndexOutOfBoundsException("no such boat");
        }
    }

    private void checkBerth(int berth) {
        if (!berths.has(berth)) {
            throw new IndexOutOfBoundsException("no such berth");
        }
    }

    private void checkBoatAndBerth(int boat, int berth) {
        checkBoat(boat);
        checkBerth(berth);
    }

    private void checkBoatInBerth(int boat) {
        checkBoat(boat);
        if (!berths.has(boats.berth[boat])) {
            throw new IllegalStateException("the boat is not in a berth");
        }
    }

    private void checkHour(int hour) {
        if (outside(hour, 0, LAST_HOUR)) {
            throw new IllegalArgumentException("the hour is out of range");
        }
    }

    private void checkFlood(int boat, int hours) {
        checkBoat(boat);
        if (outside(hours, 1, 5000)) {
            throw new IllegalArgumentException("the number is out of range");
        }
    }

    // ---- water

    private boolean enoughWater(int boat, int hour) {
        return tide.levelAt(hour) >= boats.draught[boat] + clearance;
    }

    private int countFlood(int boat, int hours) {
        int count = 0;
        for (int later = 0; later < hours; later++) {
            if (enoughWater(boat, now + later)) {
                count++;
            }
        }
        return count;
    }

    // ---- what bars a move: the reason, or 'n'

    private char liftBar(int boat, int berth) {
        if (boats.berth[boat] != WAITS) {
            return 'a';
        }
        int occupied = berths.occupied();
        if (holds(occupied, berth)) {
            return 'o';
        }
        if ((occupied & berths.inFront[berth]) != 0) {
            return 'f';
        }
        char load = loadBar(boat, berth);
        if (load != 'n') {
            return load;
        }
        return enoughWater(boat, now) ? hourBar() : 't';
    }

    private char launchBar(int boat, int berth) {
        if (boats.left[boat] > 0) {
            return 'd';
        }
        if ((berths.occupied() & berths.inFront[berth]) != 0) {
            return 'f';
        }
        if (boats.weight[boat] > capacity) {
            return 'w';
        }
        return enoughWater(boat, now) ? hourBar() : 't';
    }

    private char shiftBar(int boat, int from, int to) {
        char bar = placeBar(boat, from, to, berths.occupied());
        return bar == 'n' ? hourBar() : bar;
    }

    /** What bars a shift in any hour, also while the boats are only thought to be in other berths. */
    private char placeBar(int boat, int from, int to, int occupied) {
        if (boats.left[boat] > 0) {
            return 'd';
        }
        if (holds(occupied, to)) {
            return 'o';
        }
        int others = occupied & ~(1 << from);
        if ((others & (berths.inFront[from] | berths.inFront[to])) != 0) {
            return 'f';
        }
        return loadBar(boat, to);
    }

    private char loadBar(int boat, int berth) {
        if (boats.weight[boat] > capacity || boats.weight[boat] > berths.weight[berth]) {
            return 'w';
        }
        return boats.length[boat] > berths.length[berth] ? 'l' : 'n';
    }

    private char hourBar() {
        if (weather.badAt(now)) {
            return 'b';
        }
        return hourOfMove == now ? 'c' : 'n';
    }

    private int countMove(int boat) {
        moves++;
        hourOfMove = now;
        weightMoved += boats.weight[boat];
        return moves;
    }

    /** Whether a set of berths or boats, held as bits, has the one of this number. */
    private static boolean holds(int set, int number) {
        return ((set >> number) & 1) != 0;
    }

    // ---- ways out

    private boolean hasClearWay(int boat) {
        int berth = boats.berth[boat];
        return berths.has(berth) && (berths.occupied() & berths.inFront[berth]) == 0;
    }

    /** Each place is listed once, when it is first reached: no weight is less than that of a place taken before. */
    private int leastFirst(int boat) {
        startFromNow();
        for (int taken = 0; taken < MOST_PLACES && places.listed > 0; taken++) {
            int place = places.takeLeast();
            if (isClearAt(place, boat)) {
                return places.weight[place];
            }
            goOnFrom(place);
        }
        return NO_WAY;
    }

    private int leastOfRounds(int boat) {
        startFromNow();
        boolean less = true;
        for (int round = 0; round < MOST_PLACES && less; round++) {
            less = false;
            for (int index = 0; index < MOST_PLACES && index < places.listed; index++) {
                if (goOnFrom(places.list[index])) {
                    less = true;
                }
            }
        }
        return leastClear(boat);
    }

    private int leastClear(int boat) {
        int least = NO_WAY;
        for (int index = 0; index < MOST_PLACES && index < places.listed; index++) {
            int place = places.list[index];
            if (isClearAt(place, boat) && (least == NO_WAY || places.weight[place] < least)) {
                least = places.weight[place];
            }
        }
        return least;
    }

    private void startFromNow() {
        int code = 0;
        int berthed = 0;
        for (int boat = 0; boat < boats.count; boat++) {
            int berth = boats.berth[boat];
            if (berths.has(berth)) {
                berthed |= 1 << boat;
                code = Places.put(code, boat, berth);
            }
        }
        places.clear(berthed, berths.count);
        places.reach(code, 0);
    }

    private boolean isClearAt(int place, int boat) {
        int code = places.code[place];
        int berth = Places.berthAt(code, boat);
        return berths.has(berth) && (places.occupiedAt(code) & berths.inFront[berth]) == 0;
    }

    /** Goes on by each possible shift; answers whether the weight of any place became less. */
    private boolean goOnFrom(int place) {
        int occupied = places.occupiedAt(places.code[place]);
        boolean less = false;
        for (int to = 0; to < berths.count; to++) {
            if (!holds(occupied, to) && fillFrom(place, to, occupied)) {
                less = true;
            }
        }
        return less;
    }

    private boolean fillFrom(int place, int to, int occupied) {
        int code = places.code[place];
        int weight = places.weight[place];
        boolean less = false;
        for (int boat = 0; boat < boats.count; boat++) {
            int from = Places.berthAt(code, boat);
            if (holds(places.berthed, boat) && berths.has(from)
                    && placeBar(boat, from, to, occupied) == 'n'
                    && places.reach(Places.put(code, boat, to), weight + boats.weight[boat])) {
                less = true;
            }
        }
        return less;
    }

    private static final class Tide {
        int base = 200;
        int first = 40;
        int second = 10;

        int levelAt(int hour) {
            return base + first * (3 - Math.abs(6 - hour % 12)) + second * (6 - Math.abs(12 - hour % 25));
        }
    }

    private static final class Weather {
        final int[] from = new int[MOST_SPANS];
        final int[] to = new int[MOST_SPANS];
        int count = 0;

        int append(int first, int behind) {
            if (count < MOST_SPANS) {
                from[count] = first;
                to[count] = behind;
                count++;
            }
            return count;
        }

        int keepFrom(int hour) {
            int kept = 0;
            for (int span = 0; span < count; span++) {
                if (to[span] > hour) {
                    from[kept] = from[span];
                    to[kept] = to[span];
                    kept++;
                }
            }
            count = kept;
            return count;
        }

        boolean badAt(int hour) {
            for (int span = 0; span < count; span++) {
                if (from[span] <= hour && hour < to[span]) {
                    return true;
                }
            }
            return false;
        }

        /** One stretch of good hours lies behind each span at the most, and one ahead of all. */
        int dryBySpans(int hour, int left) {
            int at = hour;
            int rest = left;
            for (int stretch = 0; stretch <= MOST_SPANS && rest > 0; stretch++) {
                at = nextGood(at);
                int dried = Math.min(rest, nextStart(at) - at);
                at += dried;
                rest -= dried;
            }
            return at;
        }

        /** Spans can overlap in any order, so the end of one is looked up again, as often as there are spans. */
        private int nextGood(int hour) {
            int at = hour;
            for (int leap = 0; leap < count; leap++) {
                for (int span = 0; span < count; span++) {
                    if (from[span] <= at && at < to[span]) {
                        at = to[span];
                    }
                }
            }
            return at;
        }

        private int nextStart(int hour) {
            int next = NEVER;
            for (int span = 0; span < count; span++) {
                if (from[span] > hour && from[span] < next) {
                    next = from[span];
                }
            }
            return next;
        }

        int dryHourByHour(int hour, int left) {
            int at = hour;
            int rest = left;
            // No hour above the last one is bad, so that many hours more are enough for what is left by then.
            int bound = LAST_HOUR + 1 + left;
            while (rest > 0 && at < bound) {
                if (!badAt(at)) {
                    rest--;
                }
                at++;
            }
            return at;
        }
    }

    private static final class Berths {
        static final int EMPTY = -1;
        final int[] weight = new int[MOST_BERTHS];
        final int[] length = new int[MOST_BERTHS];
        // The set of all berths in front of each one, held as bits.
        final int[] inFront = new int[MOST_BERTHS];
        final int[] boat = new int[MOST_BERTHS];
        int count = 0;

        boolean has(int berth) {
            return berth >= 0 && berth < count;
        }

        int append(int front, int mostWeight, int mostLength) {
            int berth = count;
            if (berth < MOST_BERTHS) {
                weight[berth] = mostWeight;
                length[berth] = mostLength;
                inFront[berth] = has(front) ? (inFront[front] | (1 << front)) : 0;
                boat[berth] = EMPTY;
                count++;
            }
            return berth;
        }

        int occupied() {
            int occupied = 0;
            for (int berth = 0; berth < count; berth++) {
                if (boat[berth] != EMPTY) {
                    occupied |= 1 << berth;
                }
            }
            return occupied;
        }
    }

    private static final class Boats {
        final int[] draught = new int[MOST_BOATS];
        final int[] weight = new int[MOST_BOATS];
        final int[] length = new int[MOST_BOATS];
        final int[] rank = new int[MOST_BOATS];
        // The number of its berth, or WAITS, or AWAY.
        final int[] berth = new int[MOST_BOATS];
        final int[] left = new int[MOST_BOATS];
        final int[] coats = new int[MOST_BOATS];
        int count = 0;

        boolean has(int boat) {
            return boat >= 0 && boat < count;
        }

        int append(int itsDraught, int itsWeight, int itsLength, int itsRank) {
            int boat = count;
            if (boat < MOST_BOATS) {
                draught[boat] = itsDraught;
                weight[boat] = itsWeight;
                length[boat] = itsLength;
                rank[boat] = itsRank;
                berth[boat] = WAITS;
                count++;
            }
            return boat;
        }

        void dryOneHour() {
            for (int boat = 0; boat < count; boat++) {
                if (left[boat] > 0) {
                    left[boat]--;
                }
            }
        }

        int countWaiting() {
            int waiting = 0;
            for (int boat = 0; boat < count; boat++) {
                if (berth[boat] == WAITS) {
                    waiting++;
                }
            }
            return waiting;
        }

        int sumWaitingDraughts() {
            int sum = 0;
            for (int boat = 0; boat < count; boat++) {
                if (berth[boat] == WAITS) {
                    sum += draught[boat];
                }
            }
            return sum;
        }

        int firstInLine() {
            int first = -1;
            for (int boat = 0; boat < count; boat++) {
                if (berth[boat] == WAITS && (!has(first) || goesBefore(boat, first))) {
                    first = boat;
                }
            }
            return first;
        }

        private boolean goesBefore(int boat, int other) {
            if (rank[boat] != rank[other]) {
                return rank[boat] > rank[other];
            }
            return weight[boat] < weight[other];
        }
    }

    /**
     * The places that the boats in berths can have, for the search of a way out. A code tells a place,
     * three bits for the berth of each boat; its number, below MOST_PLACES, is the index of what is known of it.
     */
    private static final class Places {
        final int[] code = new int[MOST_PLACES];
        final int[] weight = new int[MOST_PLACES];
        final int[] list = new int[MOST_PLACES];
        int listed = 0;
        int berthed = 0;
        int berths = 0;

        static int put(int code, int boat, int berth) {
            return (code & ~(7 << (3 * boat))) | (berth << (3 * boat));
        }

        static int berthAt(int code, int boat) {
            return (code >> (3 * boat)) & 7;
        }

        void clear(int boatsInBerths, int numberOfBerths) {
            berthed = boatsInBerths;
            berths = numberOfBerths;
            listed = 0;
            Arrays.fill(weight, NOT_REACHED);
        }

        int occupiedAt(int code) {
            int occupied = 0;
            for (int boat = 0; boat < MOST_BOATS; boat++) {
                if (holds(berthed, boat)) {
                    occupied |= 1 << berthAt(code, boat);
                }
            }
            return occupied;
        }

        /** Counts each boat's berth among those that the boats before it leave, so that no number is left out. */
        private int numberOf(int code) {
            int number = 0;
            int used = 0;
            int free = berths;
            for (int boat = 0; boat < MOST_BOATS; boat++) {
                if (holds(berthed, boat)) {
                    int berth = berthAt(code, boat);
                    int usedBelow = Integer.bitCount(used & ((1 << berth) - 1));
                    number = number * free + berth - usedBelow;
                    used |= 1 << berth;
                    free--;
                }
            }
            return number;
        }

        /** Tells that a place can be reached with a weight; answers whether that is less than so far. */
        boolean reach(int newCode, int newWeight) {
            int place = numberOf(newCode);
            if (place < 0 || place >= MOST_PLACES || newWeight >= weight[place]) {
                return false;
            }
            if (weight[place] == NOT_REACHED && listed < MOST_PLACES) {
                list[listed] = place;
                listed++;
                code[place] = newCode;
            }
            weight[place] = newWeight;
            return true;
        }

        /** Takes the place with the least weight off the list, which must not be empty. */
        int takeLeast() {
            int least = 0;
            for (int index = 1; index < listed; index++) {
                if (weight[list[index]] < weight[list[least]]) {
                    least = index;
                }
            }
            int place = list[least];
            if (listed > 0) {
                listed--;
                list[least] = list[listed];
            }
            return place;
        }
    }
}
