import java.util.ArrayList;
import java.util.List;

/** All that a marsh answers, a line for each call that changes nothing. */
final class Answers {
    private Answers() {
    }

    static List<String> of(MarshDrains m) {
        List<String> all = new ArrayList<>();
        all.add("hour() " + m.hour());
        all.add("fields() " + m.fields());
        all.add("drains() " + m.drains());
        all.add("rain() " + m.rain());
        all.add("water() " + m.water());
        all.add("drained() " + m.drained());
        all.add("wetFields() " + m.wetFields());
        all.add("ruinedFields() " + m.ruinedFields());
        all.add("loss() " + m.loss());
        all.add("highest() " + m.highest());
        all.add("busiest() " + m.busiest());
        all.add("lossIn(1) " + m.lossIn(1));
        all.add("lossIn(48) " + m.lossIn(48));
        all.add("bestToTurn() " + m.bestToTurn());
        all.add("bestToFlood(50) " + m.bestToFlood(50));
        all.add("rainBorne() " + m.rainBorne());
        all.add("meanWater() " + m.meanWater());
        all.add("digest() " + m.digest());
        for (int field = 0; field < m.fields(); field++) {
            addField(all, m, field);
        }
        for (int drain = 0; drain < m.drains(); drain++) {
            addDrain(all, m, drain);
        }
        return all;
    }

    private static void addField(List<String> all, MarshDrains m, int field) {
        all.add("waterOn(" + field + ") " + m.waterOn(field));
        all.add("levelOf(" + field + ") " + m.levelOf(field));
        all.add("wetFor(" + field + ") " + m.wetFor(field));
        all.add("isRuined(" + field + ") " + m.isRuined(field));
        all.add("drainsAt(" + field + ") " + m.drainsAt(field));
        all.add("reaches(" + field + ") " + m.reaches(field));
        all.add("hoursUntilRuined(" + field + ") " + m.hoursUntilRuined(field));
        all.add("waterIn(" + field + ", 48) " + m.waterIn(field, 48));
    }

    private static void addDrain(List<String> all, MarshDrains m, int drain) {
        all.add("isPump(" + drain + ") " + m.isPump(drain));
        all.add("isOpen(" + drain + ") " + m.isOpen(drain));
        all.add("carriedBy(" + drain + ") " + m.carriedBy(drain));
        all.add("wouldCarry(" + drain + ") " + m.wouldCarry(drain));
    }

    /** The first line in which two marshes differ; empty if there is none. */
    static String difference(List<String> got, List<String> want) {
        for (int i = 0; i < Math.min(got.size(), want.size()); i++) {
            if (!got.get(i).equals(want.get(i))) {
                return got.get(i) + ", due is " + want.get(i);
            }
        }
        return got.size() == want.size() ? "" : got.size() + " answers, due are " + want.size();
    }
}
