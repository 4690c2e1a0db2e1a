/** Promises 18 to 24: what is asked of fields. */
public final class FieldsTest {
    private static final Checks c = new Checks();

    public static void main(String[] args) {
        noSuchField(new MarshDrains(), 0);
        noSuchField(twoFields(), -1);
        noSuchField(twoFields(), 2);
        noSuchField(twoFields(), Integer.MAX_VALUE);
        noSuchField(twoFields(), Integer.MIN_VALUE);
        promises18And19WaterAndLevel();
        promise20WetFor();
        promise21IsRuined();
        promise22DrainsAt();
        promise23ReachesByDitches();
        promise23ReachesByPumps();
        promise23ReachesAgainstTheNumbers();
        promise24Highest();
        c.end();
    }

    private static MarshDrains twoFields() {
        MarshDrains m = new MarshDrains();
        m.addField(8, 10);
        m.addField(0, 20);
        return m;
    }

    private static MarshDrains flatFields(int many) {
        MarshDrains m = new MarshDrains();
        for (int field = 0; field < many; field++) {
            m.addField(0, 1);
        }
        return m;
    }

    private static void noSuchField(MarshDrains m, int field) {
        c.noSuch("18 waterOn(" + field + ")", () -> m.waterOn(field));
        c.noSuch("19 levelOf(" + field + ")", () -> m.levelOf(field));
        c.noSuch("20 wetFor(" + field + ")", () -> m.wetFor(field));
        c.noSuch("21 isRuined(" + field + ")", () -> m.isRuined(field));
        c.noSuch("22 drainsAt(" + field + ")", () -> m.drainsAt(field));
        c.noSuch("23 reaches(" + field + ")", () -> m.reaches(field));
    }

    private static void promises18And19WaterAndLevel() {
        MarshDrains m = twoFields();
        c.due("18 waterOn(0)", m.waterOn(0), 0);
        c.due("19 levelOf(0) without water", m.levelOf(0), 8);
        c.due("19 levelOf(1) without water", m.levelOf(1), 0);
        m.flood(0, 5);
        c.due("18 waterOn(0) flooded", m.waterOn(0), 5);
        c.due("19 levelOf(0) flooded", m.levelOf(0), 13);
        m.setRain(2);
        m.pass(3);
        c.due("18 waterOn(1) with rain", m.waterOn(1), 6);
        c.due("19 levelOf(1) with rain", m.levelOf(1), 6);
        c.due("19 levelOf(0) with rain", m.levelOf(0), 19);
    }

    private static void promise20WetFor() {
        MarshDrains m = twoFields();
        m.flood(0, 4);
        c.due("20 wetFor(0) before an hour", m.wetFor(0), 0);
        m.pass(1);
        c.due("20 wetFor(0)", m.wetFor(0), 1);
        c.due("20 wetFor(1)", m.wetFor(1), 0);
        m.pass(9);
        c.due("20 wetFor(0) behind ten", m.wetFor(0), 10);
        m.addPump(0, -1, 1);
        c.due("20 wetFor(0) before it is drained", m.wetFor(0), 10);
        m.pass(1);
        c.due("20 wetFor(0) with 3 of water", m.wetFor(0), 0);
        m.turn(0);
        m.flood(0, 1);
        m.pass(2);
        c.due("20 wetFor(0) anew", m.wetFor(0), 2);
    }

    private static void promise21IsRuined() {
        MarshDrains m = twoFields();
        m.flood(1, 10);
        m.pass(5);
        c.due("21 isRuined(1) behind five", m.isRuined(1), false);
        m.pass(1);
        c.due("21 isRuined(1) behind six", m.isRuined(1), true);
        c.due("21 isRuined(0)", m.isRuined(0), false);
        m.addPump(1, -1, 9);
        m.pass(3);
        c.due("21 isRuined(1) drained", m.isRuined(1), true);
        c.due("21 wetFor(1) drained", m.wetFor(1), 0);
    }

    private static void promise22DrainsAt() {
        MarshDrains m = flatFields(4);
        c.due("22 drainsAt(0) without drains", m.drainsAt(0), 0);
        m.addDitch(0, 1, 1);
        m.addPump(1, 2, 1);
        m.addPump(1, -1, 1);
        m.addDitch(2, 1, 1);
        c.due("22 drainsAt(0)", m.drainsAt(0), 1);
        c.due("22 drainsAt(1)", m.drainsAt(1), 4);
        c.due("22 drainsAt(2)", m.drainsAt(2), 2);
        c.due("22 drainsAt(3)", m.drainsAt(3), 0);
        m.turn(1);
        c.due("22 drainsAt(1) with one shut", m.drainsAt(1), 3);
        c.due("22 drainsAt(2) with one shut", m.drainsAt(2), 1);
        m.turn(1);
        c.due("22 drainsAt(2) with it open", m.drainsAt(2), 2);
    }

    private static void promise23ReachesByDitches() {
        MarshDrains m = new MarshDrains();
        m.addField(0, 1);
        m.addField(20, 1);
        m.addField(0, 1);
        m.addField(5, 1);
        c.due("23 reaches(0) without drains", m.reaches(0), 0);
        m.addDitch(0, 1, 1);
        m.addDitch(2, 1, 1);
        c.due("23 reaches(0), however high", m.reaches(0), 2);
        c.due("23 reaches(1) either way", m.reaches(1), 2);
        c.due("23 reaches(2)", m.reaches(2), 2);
        c.due("23 reaches(3)", m.reaches(3), 0);
        m.turn(1);
        c.due("23 reaches(0) with one shut", m.reaches(0), 1);
        c.due("23 reaches(2) with one shut", m.reaches(2), 0);
    }

    private static void promise23ReachesByPumps() {
        MarshDrains m = flatFields(4);
        m.addPump(0, 1, 1);
        m.addPump(1, 2, 1);
        m.addPump(2, -1, 1);
        m.addPump(3, 2, 1);
        c.due("23 reaches(0) by pumps", m.reaches(0), 2);
        c.due("23 reaches(1) by pumps", m.reaches(1), 1);
        c.due("23 reaches(2), only the sea", m.reaches(2), 0);
        c.due("23 reaches(3) by pumps", m.reaches(3), 1);
        m.addPump(2, 0, 1);
        c.due("23 reaches(0) in a ring, itself not", m.reaches(0), 2);
        c.due("23 reaches(3) into a ring", m.reaches(3), 3);
    }

    private static void promise23ReachesAgainstTheNumbers() {
        MarshDrains m = flatFields(10);
        for (int field = 8; field >= 0; field--) {
            m.addPump(9 - field - 1, 9 - field, 1);
        }
        c.due("23 reaches(0) along the numbers", m.reaches(0), 9);
        MarshDrains back = flatFields(10);
        for (int field = 8; field >= 0; field--) {
            back.addPump(field, field + 1, 1);
        }
        c.due("23 reaches(0), the last drain first", back.reaches(0), 9);
        c.due("23 reaches(9)", back.reaches(9), 0);
        MarshDrains ditches = flatFields(10);
        for (int field = 0; field < 9; field++) {
            ditches.addDitch(field, field + 1, 1);
        }
        c.due("23 reaches(9) back along ditches", ditches.reaches(9), 9);
        ditches.turn(4);
        c.due("23 reaches(9) with the middle one shut", ditches.reaches(9), 4);
    }

    private static void promise24Highest() {
        MarshDrains m = new MarshDrains();
        c.due("24 highest() without fields", m.highest(), -1);
        m.addField(0, 1);
        c.due("24 highest() of one", m.highest(), 0);
        m.addField(0, 1);
        c.due("24 highest() of the same", m.highest(), 0);
        m.addField(5, 1);
        m.addField(3, 1);
        c.due("24 highest() by floors", m.highest(), 2);
        m.flood(3, 2);
        c.due("24 highest() of the same, flooded", m.highest(), 2);
        m.flood(3, 1);
        c.due("24 highest() by water", m.highest(), 3);
        m.flood(0, 6);
        c.due("24 highest() of the same, the smallest number", m.highest(), 0);
    }
}
