/** Ten fields and sixteen drains: the last ones count in every answer, and nothing lies behind them. */
public final class FullMarshTest {
    private static final Checks c = new Checks();

    public static void main(String[] args) {
        lastFieldDryAndFlooded();
        lastDrain();
        allFieldsTogether();
        asTheDocumentToldAgain();
        c.end();
    }

    /** Field 9 stands highest, is worth least and has one pump, the last; all are shut. */
    private static MarshDrains fullMarsh() {
        MarshDrains m = new MarshDrains();
        for (int field = 0; field < 10; field++) {
            m.addField(field, 10 - field);
        }
        for (int drain = 0; drain < 16; drain++) {
            m.addPump(drain < 15 ? drain % 9 : 9, -1, 9);
            m.turn(drain);
        }
        return m;
    }

    private static void lastFieldDryAndFlooded() {
        MarshDrains m = fullMarsh();
        c.due("highest()", m.highest(), 9);
        c.due("bestToFlood(50)", m.bestToFlood(50), 9);
        c.due("flood(9, 50)", m.flood(9, 50), 50);
        c.due("water()", m.water(), 50);
        c.due("wetFields()", m.wetFields(), 1);
        c.due("meanWater()", m.meanWater(), 5.0);
        c.due("hoursUntilRuined(9)", m.hoursUntilRuined(9), 6);
        c.due("waterIn(9, 48)", m.waterIn(9, 48), 50);
        c.due("bestToTurn()", m.bestToTurn(), 15);
        c.due("pass(6)", m.pass(6), 1);
        c.due("wetFor(9)", m.wetFor(9), 6);
        c.due("isRuined(9)", m.isRuined(9), true);
        c.due("ruinedFields()", m.ruinedFields(), 1);
        c.due("loss()", m.loss(), 1);
        c.due("lossIn(1)", m.lossIn(1), 1);
        c.due("levelOf(9)", m.levelOf(9), 59);
    }

    private static void lastDrain() {
        MarshDrains m = fullMarsh();
        m.flood(9, 50);
        c.due("drainsAt(9), shut", m.drainsAt(9), 0);
        c.due("turn(15)", m.turn(15), true);
        c.due("drainsAt(9)", m.drainsAt(9), 1);
        c.due("isPump(15)", m.isPump(15), true);
        c.due("wouldCarry(15)", m.wouldCarry(15), 9);
        m.pass(1);
        c.due("carriedBy(15)", m.carriedBy(15), 9);
        c.due("busiest()", m.busiest(), 15);
        c.due("drained()", m.drained(), 9);
        c.due("waterOn(9)", m.waterOn(9), 41);
        c.due("reaches(9)", m.reaches(9), 0);
    }

    private static void allFieldsTogether() {
        MarshDrains m = fullMarsh();
        m.setRain(9);
        c.due("rainBorne(), all shut", m.rainBorne(), 0);
        for (int drain = 0; drain < 16; drain++) {
            m.turn(drain);
        }
        c.due("rainBorne(), all open", m.rainBorne(), 9);
        m.turn(15);
        c.due("rainBorne(), the last shut", m.rainBorne(), 0);
        c.due("lossIn(6)", m.lossIn(6), 1);
        for (int drain = 0; drain < 15; drain++) {
            m.turn(drain);
        }
        c.due("pass(6)", m.pass(6), 10);
        c.due("loss()", m.loss(), 55);
        c.due("water()", m.water(), 540);
        c.due("wetFields()", m.wetFields(), 10);
    }

    private static void asTheDocumentToldAgain() {
        MarshDrains m = new MarshDrains();
        PlainMarsh plain = new PlainMarsh();
        for (int field = 0; field < 10; field++) {
            m.addField(2 * field, 9 * field);
            plain.addField(2 * field, 9 * field);
        }
        for (int drain = 0; drain < 16; drain++) {
            int other = (drain * 7 + 3) % 10;
            if (drain % 3 != 0) {
                m.addDitch(drain % 10, other, 1 + drain % 9);
                plain.addDitch(drain % 10, other, 1 + drain % 9);
            } else {
                m.addPump(drain % 10, drain % 6 == 0 ? -1 : other, 1 + drain % 9);
                plain.addPump(drain % 10, drain % 6 == 0 ? -1 : other, 1 + drain % 9);
            }
        }
        m.setRain(1);
        plain.setRain(1);
        for (int hour = 0; hour < 30; hour++) {
            c.due("digest() at the hour " + hour, m.digest(), plain.digest());
            m.pass(1);
            plain.pass(1);
        }
    }
}
