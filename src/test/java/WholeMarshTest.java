/** Promises 9 to 17: what is asked of the marsh as a whole. */
public final class WholeMarshTest {
    private static final Checks c = new Checks();

    public static void main(String[] args) {
        promise9Hour();
        promises10And11Counts();
        promise12Rain();
        promise13Water();
        promise14Drained();
        promise15WetFields();
        promises16And17Ruined();
        c.end();
    }

    private static void promise9Hour() {
        MarshDrains m = new MarshDrains();
        c.due("9 hour()", m.hour(), 0);
        m.pass(1);
        c.due("9 hour() behind 1", m.hour(), 1);
        m.pass(48);
        c.due("9 hour() behind 48 more", m.hour(), 49);
        m.addField(0, 1);
        m.lossIn(48);
        m.waterIn(0, 5);
        m.hoursUntilRuined(0);
        m.rainBorne();
        c.due("9 hour() behind questions", m.hour(), 49);
    }

    private static void promises10And11Counts() {
        MarshDrains m = new MarshDrains();
        c.due("10 fields()", m.fields(), 0);
        m.addField(0, 1);
        c.due("10 fields() of one", m.fields(), 1);
        m.addField(0, 1);
        c.due("10 fields() of two", m.fields(), 2);
        c.due("11 drains()", m.drains(), 0);
        m.addDitch(0, 1, 1);
        c.due("11 drains() of one", m.drains(), 1);
        m.addPump(0, -1, 1);
        m.turn(0);
        c.due("11 drains() of two, one shut", m.drains(), 2);
        c.due("10 fields() with drains", m.fields(), 2);
    }

    private static void promise12Rain() {
        MarshDrains m = new MarshDrains();
        c.due("12 rain()", m.rain(), 0);
        m.setRain(9);
        c.due("12 rain() of 9", m.rain(), 9);
        m.rainBorne();
        c.due("12 rain() behind rainBorne()", m.rain(), 9);
        m.setRain(0);
        c.due("12 rain() of 0", m.rain(), 0);
    }

    private static void promise13Water() {
        MarshDrains m = new MarshDrains();
        c.due("13 water() without fields", m.water(), 0);
        m.addField(20, 1);
        m.addField(3, 1);
        c.due("13 water() of dry fields", m.water(), 0);
        m.flood(0, 7);
        m.flood(1, 50);
        c.due("13 water()", m.water(), 57);
        m.setRain(1);
        m.pass(3);
        c.due("13 water() with rain", m.water(), 63);
        m.addPump(1, -1, 9);
        m.pass(1);
        c.due("13 water() without what is in the sea", m.water(), 56);
    }

    private static void promise14Drained() {
        MarshDrains m = new MarshDrains();
        m.addField(0, 1);
        m.addField(0, 1);
        m.addPump(0, -1, 4);
        m.addPump(1, 0, 2);
        m.addPump(0, -1, 3);
        m.flood(0, 12);
        m.flood(1, 5);
        c.due("14 drained() at first", m.drained(), 0);
        m.pass(1);
        c.due("14 drained() by both pumps to the sea", m.drained(), 7);
        m.pass(1);
        c.due("14 drained() in all", m.drained(), 14);
        m.pass(1);
        c.due("14 drained() at last", m.drained(), 17);
        c.due("14 water() at last", m.water(), 0);
    }

    private static void promise15WetFields() {
        MarshDrains m = new MarshDrains();
        c.due("15 wetFields() without fields", m.wetFields(), 0);
        m.addField(20, 1);
        m.addField(0, 1);
        m.addField(0, 1);
        c.due("15 wetFields() of dry fields", m.wetFields(), 0);
        m.flood(1, 3);
        c.due("15 wetFields() with 3 of water", m.wetFields(), 0);
        m.flood(1, 1);
        c.due("15 wetFields() with 4 of water", m.wetFields(), 1);
        m.flood(0, 9);
        c.due("15 wetFields() of two", m.wetFields(), 2);
        m.pass(7);
        c.due("15 wetFields() though ruined", m.wetFields(), 2);
    }

    private static void promises16And17Ruined() {
        MarshDrains m = new MarshDrains();
        c.due("16 ruinedFields() without fields", m.ruinedFields(), 0);
        c.due("17 loss() without fields", m.loss(), 0);
        m.addField(0, 99);
        m.addField(0, 7);
        m.addField(0, 0);
        m.addField(0, 31);
        m.flood(1, 4);
        m.flood(2, 5);
        m.flood(3, 3);
        m.pass(5);
        c.due("16 ruinedFields() behind five hours", m.ruinedFields(), 0);
        c.due("17 loss() behind five hours", m.loss(), 0);
        m.flood(3, 1);
        m.pass(1);
        c.due("16 ruinedFields()", m.ruinedFields(), 2);
        c.due("17 loss()", m.loss(), 7);
        m.pass(5);
        c.due("16 ruinedFields() with field 3", m.ruinedFields(), 3);
        c.due("17 loss() with field 3", m.loss(), 38);
        m.addPump(1, -1, 9);
        m.pass(2);
        c.due("16 ruinedFields() for good", m.ruinedFields(), 3);
        c.due("17 loss() for good", m.loss(), 38);
    }
}
