/** A marsh of fields that are drained; the document numbers the promises that these methods keep. */
public final class MarshDrains {
    private static final int MOST_FIELDS = 10;
    private static final int MOST_DRAINS = 16;
    private static final int MOST_FLOOR = 20;
    private static final int MOST_WORTH = 99;
    private static final int MOST_CARRIED = 9;
    private static final int MOST_RAIN = 9;
    private static final int MOST_FLOODED = 50;
    private static final int MOST_HOURS = 48;
    private static final int HOURS_LOOKED_AHEAD = 100;
    private static final int HOURS_WEIGHED = 24;
    private static final int WATER_OF_WET = 4;
    private static final int HOURS_TO_RUIN = 6;
    private static final int SEA = -1;
    private static final int NONE = -1;

    private final Marsh now = new Marsh();

    // Kept and written over by each question of what would be, since all that a run makes is counted.
    private final Marsh trial = new Marsh();

    public MarshDrains() {
    }

    // ---- fields and drains

    public int addField(int floor, int worth) throws IllegalArgumentException, IllegalStateException {
        requireWithin(floor, 0, MOST_FLOOR);
        requireWithin(worth, 0, MOST_WORTH);
        int field = now.putField(floor, worth);
        if (field == NONE) {
            throw new IllegalStateException("there are ten fields");
        }
        return field;
    }

    public int addDitch(int one, int other, int carries)
            throws IndexOutOfBoundsException, IllegalArgumentException, IllegalStateException {
        requireField(one);
        requireField(other);
        return addDrain(one, other, carries, false);
    }

    public int addPump(int from, int to, int carries)
            throws IndexOutOfBoundsException, IllegalArgumentException, IllegalStateException {
        requireField(from);
        if (to != SEA) {
            requireField(to);
        }
        return addDrain(from, to, carries, true);
    }

    public boolean turn(int drain) throws IndexOutOfBoundsException {
        requireDrain(drain);
        now.turnDrain(drain);
        return now.opens[drain];
    }

    public int setRain(int rain) throws IllegalArgumentException {
        requireWithin(rain, 0, MOST_RAIN);
        int before = now.rainfall;
        now.rainfall = rain;
        return before;
    }

    public int flood(int field, int many) throws IndexOutOfBoundsException, IllegalArgumentException {
        requireField(field);
        requireWithin(many, 1, MOST_FLOODED);
        now.letWaterIn(field, many);
        return now.waters[field];
    }

    public int pass(int hours) throws IllegalArgumentException {
        requireWithin(hours, 1, MOST_HOURS);
        int before = now.countRuined();
        now.passHours(hours);
        return now.countRuined() - before;
    }

    // ---- the marsh

    public int hour() {
        return now.clock;
    }

    public int fields() {
        return now.fieldCount;
    }

    public int drains() {
        return now.drainCount;
    }

    public int rain() {
        return now.rainfall;
    }

    public int water() {
        int sum = 0;
        for (int field = 0; field < now.fieldCount; field++) {
            sum += now.waters[field];
        }
        return sum;
    }

    public int drained() {
        return now.toSea;
    }

    public int wetFields() {
        int count = 0;
        for (int field = 0; field < now.fieldCount; field++) {
            if (now.isWet(field)) {
                count++;
            }
        }
        return count;
    }

    public int ruinedFields() {
        return now.countRuined();
    }

    public int loss() {
        return now.lostWorth();
    }

    // ---- fields

    public int waterOn(int field) throws IndexOutOfBoundsException {
        requireField(field);
        return now.waters[field];
    }

    public int levelOf(int field) throws IndexOutOfBoundsException {
        requireField(field);
        return now.levelAt(field);
    }

    public int wetFor(int field) throws IndexOutOfBoundsException {
        requireField(field);
        return now.wetHours[field];
    }

    public boolean isRuined(int field) throws IndexOutOfBoundsException {
        requireField(field);
        return now.ruined[field];
    }

    public int drainsAt(int field) throws IndexOutOfBoundsException {
        requireField(field);
        int count = 0;
        for (int drain = 0; drain < now.drainCount; drain++) {
            if (now.opens[drain] && (now.froms[drain] == field || now.tos[drain] == field)) {
                count++;
            }
        }
        return count;
    }

    public int reaches(int field) throws IndexOutOfBoundsException {
        requireField(field);
        int reached = 1 << field;
        // A way without a turn back has fewer steps than there are fields.
        for (int step = 1; step < now.fieldCount; step++) {
            reached = now.spreadByDrains(reached);
        }
        return Integer.bitCount(reached) - 1;
    }

    public int highest() {
        int best = NONE;
        int bestLevel = 0;
        for (int field = 0; field < now.fieldCount; field++) {
            int level = now.levelAt(field);
            if (best == NONE || level > bestLevel) {
                best = field;
                bestLevel = level;
            }
        }
        return best;
    }

    // ---- drains

    public boolean isPump(int drain) throws IndexOutOfBoundsException {
        requireDrain(drain);
        return now.pumps[drain];
    }

    public boolean isOpen(int drain) throws IndexOutOfBoundsException {
        requireDrain(drain);
        return now.opens[drain];
    }

    public int carriedBy(int drain) throws IndexOutOfBoundsException {
        requireDrain(drain);
        return now.carried[drain];
    }

    public int wouldCarry(int drain) throws IndexOutOfBoundsException {
        requireDrain(drain);
        return Math.abs(now.flowNow(drain));
    }

    public int busiest() {
        int best = NONE;
        int bestCarried = 0;
        for (int drain = 0; drain < now.drainCount; drain++) {
            int carried = now.carried[drain];
            if (best == NONE || carried > bestCarried) {
                best = drain;
                bestCarried = carried;
            }
        }
        return best;
    }

    // ---- what would be

    public int hoursUntilRuined(int field) throws IndexOutOfBoundsException {
        requireField(field);
        trial.becomeLike(now);
        for (int hours = 0; hours <= HOURS_LOOKED_AHEAD; hours++) {
            if (trial.ruined[field]) {
                return hours;
            }
            trial.passHour();
        }
        return -1;
    }

    public int lossIn(int hours) throws IllegalArgumentException {
        requireWithin(hours, 1, MOST_HOURS);
        trial.becomeLike(now);
        trial.passHours(hours);
        return trial.lostWorth();
    }

    public int waterIn(int field, int hours) throws IndexOutOfBoundsException, IllegalArgumentException {
        requireField(field);
        requireWithin(hours, 1, MOST_HOURS);
        trial.becomeLike(now);
        trial.passHours(hours);
        return trial.waters[field];
    }

    public int bestToTurn() {
        trial.becomeLike(now);
        trial.passHours(HOURS_WEIGHED);
        int leastLoss = trial.lostWorth();
        int best = NONE;
        for (int drain = 0; drain < now.drainCount; drain++) {
            trial.becomeLike(now);
            trial.turnDrain(drain);
            trial.passHours(HOURS_WEIGHED);
            int loss = trial.lostWorth();
            if (loss < leastLoss) {
                best = drain;
                leastLoss = loss;
            }
        }
        return best;
    }

    public int bestToFlood(int many) throws IllegalArgumentException {
        requireWithin(many, 1, MOST_FLOODED);
        int best = NONE;
        int leastLoss = 0;
        for (int field = 0; field < now.fieldCount; field++) {
            trial.becomeLike(now);
            trial.letWaterIn(field, many);
            trial.passHours(HOURS_WEIGHED);
            int loss = trial.lostWorth();
            if (best == NONE || loss < leastLoss) {
                best = field;
                leastLoss = loss;
            }
        }
        return best;
    }

    public int rainBorne() {
        int lossNow = now.lostWorth();
        for (int rain = MOST_RAIN; rain >= 0; rain--) {
            trial.becomeLike(now);
            trial.rainfall = rain;
            trial.passHours(HOURS_WEIGHED);
            if (trial.lostWorth() == lossNow) {
                return rain;
            }
        }
        return -1;
    }

    public double meanWater() {
        int count = now.fieldCount;
        if (count <= 0) {
            return 0.0;
        }
        return (double) water() / (double) count;
    }

    public long digest() {
        long d = 2341L;
        d = mix(d, hour());
        d = mix(d, fields());
        d = mix(d, drains());
        d = mix(d, rain());
        d = mix(d, water());
        d = mix(d, drained());
        d = mix(d, wetFields());
        d = mix(d, loss());
        d = mix(d, highest());
        d = mix(d, busiest());
        d = mix(d, lossIn(12));
        d = mix(d, bestToTurn());
        d = mix(d, bestToFlood(10));
        d = mix(d, rainBorne());
        d = mixFields(d);
        return mixDrains(d);
    }

    private long mixFields(long start) {
        long d = start;
        for (int field = 0; field < now.fieldCount; field++) {
            d = mix(d, waterOn(field));
            d = mix(d, wetFor(field));
            d = mix(d, isRuined(field) ? 1 : 0);
            d = mix(d, drainsAt(field));
            d = mix(d, reaches(field));
            d = mix(d, hoursUntilRuined(field));
        }
        return d;
    }

    private long mixDrains(long start) {
        long d = start;
        for (int drain = 0; drain < now.drainCount; drain++) {
            d = mix(d, isOpen(drain) ? 1 : 0);
            d = mix(d, carriedBy(drain));
            d = mix(d, wouldCarry(drain));
        }
        return d;
    }

    private static long mix(long d, int x) {
        return d * 31L + (long) x;
    }

    private int addDrain(int from, int to, int carries, boolean pump) {
        if (from == to) {
            throw new IllegalArgumentException("a drain leads from a field to another one");
        }
        requireWithin(carries, 1, MOST_CARRIED);
        int drain = now.putDrain(from, to, carries, pump);
        if (drain == NONE) {
            throw new IllegalStateException("there are sixteen drains");
        }
        return drain;
    }

    private void requireField(int field) {
        if (!now.hasField(field)) {
            throw new IndexOutOfBoundsException("there is no such field");
        }
    }

    private void requireDrain(int drain) {
        if (!now.hasDrain(drain)) {
            throw new IndexOutOfBoundsException("there is no such drain");
        }
    }

    private static void requireWithin(int number, int least, int most) {
        if (number < least || number > most) {
            throw new IllegalArgumentException("a number is outside its bounds");
        }
    }

    /** All that a marsh is at one time; the one that is now, and the one in which it is tried what would be. */
    private static final class Marsh {
        private final int[] floors = new int[MOST_FIELDS];
        private final int[] worths = new int[MOST_FIELDS];
        private final int[] waters = new int[MOST_FIELDS];
        private final int[] wetHours = new int[MOST_FIELDS];
        private final boolean[] ruined = new boolean[MOST_FIELDS];
        private final int[] froms = new int[MOST_DRAINS];
        private final int[] tos = new int[MOST_DRAINS];
        private final int[] carries = new int[MOST_DRAINS];
        private final int[] carried = new int[MOST_DRAINS];
        private final boolean[] pumps = new boolean[MOST_DRAINS];
        private final boolean[] opens = new boolean[MOST_DRAINS];
        private int fieldCount;
        private int drainCount;
        private int rainfall;
        private int toSea;
        private int clock;

        boolean hasField(int field) {
            return field >= 0 && field < fieldCount;
        }

        boolean hasDrain(int drain) {
            return drain >= 0 && drain < drainCount;
        }

        /** Answers the field's number, or NONE if there is no room for it. */
        int putField(int floor, int worth) {
            int field = fieldCount;
            if (field >= MOST_FIELDS) {
                return NONE;
            }
            floors[field] = floor;
            worths[field] = worth;
            fieldCount = field + 1;
            return field;
        }

        /** Answers the drain's number, or NONE if there is no room for it. */
        int putDrain(int from, int to, int most, boolean pump) {
            int drain = drainCount;
            if (drain >= MOST_DRAINS) {
                return NONE;
            }
            froms[drain] = from;
            tos[drain] = to;
            carries[drain] = most;
            pumps[drain] = pump;
            opens[drain] = true;
            drainCount = drain + 1;
            return drain;
        }

        void turnDrain(int drain) {
            if (hasDrain(drain)) {
                opens[drain] = !opens[drain];
            }
        }

        void letWaterIn(int field, int many) {
            if (hasField(field)) {
                waters[field] += many;
            }
        }

        int levelAt(int field) {
            return hasField(field) ? floors[field] + waters[field] : 0;
        }

        boolean isWet(int field) {
            return hasField(field) && waters[field] >= WATER_OF_WET;
        }

        int countRuined() {
            int count = 0;
            for (int field = 0; field < fieldCount; field++) {
                if (ruined[field]) {
                    count++;
                }
            }
            return count;
        }

        int lostWorth() {
            int sum = 0;
            for (int field = 0; field < fieldCount; field++) {
                if (ruined[field]) {
                    sum += worths[field];
                }
            }
            return sum;
        }

        void passHours(int hours) {
            for (int passed = 0; passed < hours; passed++) {
                passHour();
            }
        }

        void passHour() {
            for (int field = 0; field < fieldCount; field++) {
                waters[field] += rainfall;
            }
            for (int drain = 0; drain < drainCount; drain++) {
                letFlow(drain, flowNow(drain));
            }
            countWetHours();
            clock++;
        }

        private void letFlow(int drain, int flow) {
            if (!hasDrain(drain)) {
                return;
            }
            letWaterIn(froms[drain], -flow);
            if (tos[drain] == SEA) {
                toSea += flow;
            } else {
                letWaterIn(tos[drain], flow);
            }
            carried[drain] += Math.abs(flow);
        }

        /** What the drain carries as all stands: above 0 the way that it was laid, below 0 the other way. */
        int flowNow(int drain) {
            if (!hasDrain(drain) || !opens[drain] || !hasField(froms[drain])) {
                return 0;
            }
            int from = froms[drain];
            int to = tos[drain];
            if (pumps[drain]) {
                return Math.min(carries[drain], waters[from]);
            }
            if (!hasField(to)) {
                return 0;
            }
            int half = (floors[from] + waters[from] - floors[to] - waters[to]) / 2;
            if (half >= 0) {
                return Math.min(half, Math.min(carries[drain], waters[from]));
            }
            return -Math.min(-half, Math.min(carries[drain], waters[to]));
        }

        private void countWetHours() {
            for (int field = 0; field < fieldCount; field++) {
                wetHours[field] = isWet(field) ? wetHours[field] + 1 : 0;
                if (wetHours[field] >= HOURS_TO_RUIN) {
                    ruined[field] = true;
                }
            }
        }

        /** The fields, a bit each, to which water comes from these by one round of all open drains. */
        int spreadByDrains(int start) {
            int reached = start;
            for (int drain = 0; drain < drainCount; drain++) {
                int from = 1 << froms[drain];
                int to = tos[drain] == SEA ? 0 : 1 << tos[drain];
                if (opens[drain] && (reached & from) != 0) {
                    reached |= to;
                }
                if (opens[drain] && !pumps[drain] && (reached & to) != 0) {
                    reached |= from;
                }
            }
            return reached;
        }

        void becomeLike(Marsh other) {
            fieldCount = other.fieldCount;
            drainCount = other.drainCount;
            rainfall = other.rainfall;
            toSea = other.toSea;
            clock = other.clock;
            for (int field = 0; field < MOST_FIELDS; field++) {
                floors[field] = other.floors[field];
                worths[field] = other.worths[field];
                waters[field] = other.waters[field];
                wetHours[field] = other.wetHours[field];
                ruined[field] = other.ruined[field];
            }
            for (int drain = 0; drain < MOST_DRAINS; drain++) {
                froms[drain] = other.froms[drain];
                tos[drain] = other.tos[drain];
                carries[drain] = other.carries[drain];
                carried[drain] = other.carried[drain];
                pumps[drain] = other.pumps[drain];
                opens[drain] = other.opens[drain];
            }
        }
    }
}
