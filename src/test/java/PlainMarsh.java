import java.util.ArrayDeque;
import java.util.ArrayList;
import java.util.Deque;
import java.util.List;
import java.util.Set;
import java.util.TreeSet;
import java.util.function.Consumer;

/** The document told a second time, with objects, lists and copies, and without a thought for what it costs. */
final class PlainMarsh {
    private static final class Land {
        final int floor;
        final int worth;
        int water = 0;
        int wet = 0;
        boolean ruined = false;

        Land(int floor, int worth) {
            this.floor = floor;
            this.worth = worth;
        }

        int level() {
            return floor + water;
        }
    }

    private static final class Way {
        final int first;
        final int second;
        final int carries;
        final boolean pump;
        boolean open = true;
        int carried = 0;

        Way(int first, int second, int carries, boolean pump) {
            this.first = first;
            this.second = second;
            this.carries = carries;
            this.pump = pump;
        }
    }

    private final List<Land> lands = new ArrayList<>();
    private final List<Way> ways = new ArrayList<>();
    private int hour = 0;
    private int rain = 0;
    private int sea = 0;

    private PlainMarsh copy() {
        PlainMarsh other = new PlainMarsh();
        for (Land land : lands) {
            Land same = new Land(land.floor, land.worth);
            same.water = land.water;
            same.wet = land.wet;
            same.ruined = land.ruined;
            other.lands.add(same);
        }
        for (Way way : ways) {
            Way same = new Way(way.first, way.second, way.carries, way.pump);
            same.open = way.open;
            same.carried = way.carried;
            other.ways.add(same);
        }
        other.hour = hour;
        other.rain = rain;
        other.sea = sea;
        return other;
    }

    private Land land(int field) {
        if (field < 0 || field >= lands.size()) {
            throw new IndexOutOfBoundsException();
        }
        return lands.get(field);
    }

    private Way way(int drain) {
        if (drain < 0 || drain >= ways.size()) {
            throw new IndexOutOfBoundsException();
        }
        return ways.get(drain);
    }

    private static void within(int number, int least, int most) {
        if (number < least || number > most) {
            throw new IllegalArgumentException();
        }
    }

    public int addField(int floor, int worth) {
        within(floor, 0, 20);
        within(worth, 0, 99);
        if (lands.size() == 10) {
            throw new IllegalStateException();
        }
        lands.add(new Land(floor, worth));
        return lands.size() - 1;
    }

    private int add(Way way) {
        within(way.first == way.second ? 0 : 1, 1, 1);
        within(way.carries, 1, 9);
        if (ways.size() == 16) {
            throw new IllegalStateException();
        }
        ways.add(way);
        return ways.size() - 1;
    }

    public int addDitch(int one, int other, int carries) {
        land(one);
        land(other);
        return add(new Way(one, other, carries, false));
    }

    public int addPump(int from, int to, int carries) {
        land(from);
        if (to != -1) {
            land(to);
        }
        return add(new Way(from, to, carries, true));
    }

    public boolean turn(int drain) {
        way(drain).open = !way(drain).open;
        return way(drain).open;
    }

    public int setRain(int rain) {
        within(rain, 0, 9);
        int before = this.rain;
        this.rain = rain;
        return before;
    }

    public int flood(int field, int many) {
        land(field);
        within(many, 1, 50);
        land(field).water += many;
        return land(field).water;
    }

    public int pass(int hours) {
        within(hours, 1, 48);
        int before = ruinedFields();
        for (int i = 0; i < hours; i++) {
            oneHour();
        }
        return ruinedFields() - before;
    }

    private void oneHour() {
        for (Land land : lands) {
            land.water += rain;
        }
        for (Way way : ways) {
            carry(way);
        }
        for (Land land : lands) {
            land.wet = land.water >= 4 ? land.wet + 1 : 0;
            if (land.wet == 6) {
                land.ruined = true;
            }
        }
        hour += 1;
    }

    /** Moves water drop by drop. */
    private int carry(Way way) {
        int moved = 0;
        if (!way.open) {
            return 0;
        }
        Land from = land(way.first);
        Land to = way.second == -1 ? null : land(way.second);
        if (!way.pump && to.level() > from.level()) {
            Land swapped = from;
            from = to;
            to = swapped;
        }
        int most = way.pump ? way.carries : Math.min(way.carries, (from.level() - to.level()) / 2);
        while (moved < most && from.water > 0) {
            from.water--;
            if (to == null) {
                sea++;
            } else {
                to.water++;
            }
            moved++;
        }
        way.carried += moved;
        return moved;
    }

    public int hour() {
        return hour;
    }

    public int fields() {
        return lands.size();
    }

    public int drains() {
        return ways.size();
    }

    public int rain() {
        return rain;
    }

    public int water() {
        return lands.stream().mapToInt(land -> land.water).sum();
    }

    public int drained() {
        return sea;
    }

    public int wetFields() {
        return (int) lands.stream().filter(land -> land.water >= 4).count();
    }

    public int ruinedFields() {
        return (int) lands.stream().filter(land -> land.ruined).count();
    }

    public int loss() {
        return lands.stream().filter(land -> land.ruined).mapToInt(land -> land.worth).sum();
    }

    public int waterOn(int field) {
        return land(field).water;
    }

    public int levelOf(int field) {
        return land(field).level();
    }

    public int wetFor(int field) {
        return land(field).wet;
    }

    public boolean isRuined(int field) {
        return land(field).ruined;
    }

    public int drainsAt(int field) {
        land(field);
        return (int) ways.stream().filter(way -> way.open && (way.first == field || way.second == field)).count();
    }

    public int reaches(int field) {
        land(field);
        Set<Integer> seen = new TreeSet<>(List.of(field, -1));
        Deque<Integer> next = new ArrayDeque<>(List.of(field));
        while (!next.isEmpty()) {
            int at = next.remove();
            for (Way way : ways) {
                if (way.open && way.first == at && seen.add(way.second)) {
                    next.add(way.second);
                }
                if (way.open && !way.pump && way.second == at && seen.add(way.first)) {
                    next.add(way.first);
                }
            }
        }
        return seen.size() - 2;
    }

    public int highest() {
        int highest = lands.stream().mapToInt(Land::level).max().orElse(-1);
        for (int field = 0; field < lands.size(); field++) {
            if (land(field).level() == highest) {
                return field;
            }
        }
        return -1;
    }

    public boolean isPump(int drain) {
        return way(drain).pump;
    }

    public boolean isOpen(int drain) {
        return way(drain).open;
    }

    public int carriedBy(int drain) {
        return way(drain).carried;
    }

    public int wouldCarry(int drain) {
        way(drain);
        PlainMarsh tried = copy();
        return tried.carry(tried.way(drain));
    }

    public int busiest() {
        int most = ways.stream().mapToInt(way -> way.carried).max().orElse(-1);
        for (Way way : ways) {
            if (way.carried == most) {
                return ways.indexOf(way);
            }
        }
        return -1;
    }

    public int hoursUntilRuined(int field) {
        land(field);
        PlainMarsh tried = copy();
        int hours = 0;
        while (hours < 100 && !tried.isRuined(field)) {
            tried.oneHour();
            hours++;
        }
        return tried.isRuined(field) ? hours : -1;
    }

    private int lossWith(int hours, Consumer<PlainMarsh> deed) {
        PlainMarsh tried = copy();
        deed.accept(tried);
        tried.pass(hours);
        return tried.loss();
    }

    public int lossIn(int hours) {
        return lossWith(hours, tried -> { });
    }

    public int waterIn(int field, int hours) {
        land(field);
        PlainMarsh tried = copy();
        tried.pass(hours);
        return tried.waterOn(field);
    }

    public int bestToTurn() {
        int[] losses = new int[ways.size()];
        for (int drain = 0; drain < losses.length; drain++) {
            int turned = drain;
            losses[drain] = lossWith(24, tried -> tried.turn(turned));
        }
        int best = firstOfLeast(losses);
        return best >= 0 && losses[best] < lossIn(24) ? best : -1;
    }

    public int bestToFlood(int many) {
        within(many, 1, 50);
        int[] losses = new int[lands.size()];
        for (int field = 0; field < losses.length; field++) {
            int flooded = field;
            losses[field] = lossWith(24, tried -> tried.flood(flooded, many));
        }
        return firstOfLeast(losses);
    }

    private static int firstOfLeast(int[] numbers) {
        int best = -1;
        for (int i = numbers.length - 1; i >= 0; i--) {
            best = best < 0 || numbers[i] <= numbers[best] ? i : best;
        }
        return best;
    }

    public int rainBorne() {
        int borne = -1;
        for (int rain = 0; rain <= 9; rain++) {
            int tried = rain;
            borne = lossWith(24, other -> other.setRain(tried)) == loss() ? rain : borne;
        }
        return borne;
    }

    public double meanWater() {
        return lands.stream().mapToInt(land -> land.water).average().orElse(0);
    }

    public long digest() {
        List<Integer> numbers = new ArrayList<>(List.of(hour(), fields(), drains(), rain(), water(), drained()));
        numbers.addAll(List.of(wetFields(), loss(), highest(), busiest(), lossIn(12), bestToTurn()));
        numbers.addAll(List.of(bestToFlood(10), rainBorne()));
        for (int f = 0; f < lands.size(); f++) {
            int ruined = isRuined(f) ? 1 : 0;
            numbers.addAll(List.of(waterOn(f), wetFor(f), ruined, drainsAt(f), reaches(f), hoursUntilRuined(f)));
        }
        for (int drain = 0; drain < ways.size(); drain++) {
            numbers.addAll(List.of(isOpen(drain) ? 1 : 0, carriedBy(drain), wouldCarry(drain)));
        }
        long d = 2341;
        for (int x : numbers) {
            d = d * 31 + x;
        }
        return d;
    }
}
