/** Marshes with which several tests begin. */
final class Marshes {
    interface Maker {
        MarshDrains make();
    }

    private Marshes() {
    }

    /** Fields without water, all with floor 0. */
    static MarshDrains flat(int... worths) {
        MarshDrains m = new MarshDrains();
        for (int worth : worths) {
            m.addField(0, worth);
        }
        return m;
    }

    /** Three fields, two of them ruined, and three drains, one of each kind, the second one shut, behind eight hours. */
    static MarshDrains three() {
        MarshDrains m = new MarshDrains();
        m.addField(5, 30);
        m.addField(3, 50);
        m.addField(0, 0);
        m.addDitch(0, 1, 3);
        m.addPump(2, 0, 4);
        m.addPump(1, -1, 1);
        m.turn(1);
        m.flood(0, 9);
        m.setRain(1);
        m.pass(8);
        return m;
    }

    /** Ten fields and sixteen drains of all kinds, behind four hours. */
    static MarshDrains full() {
        MarshDrains m = new MarshDrains();
        for (int field = 0; field < 10; field++) {
            m.addField(2 * field, 99 - 9 * field);
        }
        for (int drain = 0; drain < 16; drain++) {
            int from = drain % 10;
            int to = (drain * 3 + 1) % 10;
            if (drain % 2 == 0) {
                m.addDitch(from, to, 1 + drain % 9);
            } else {
                m.addPump(from, drain % 4 == 1 ? -1 : (from + 4) % 10, 1 + drain % 9);
            }
        }
        m.turn(3);
        m.turn(15);
        m.flood(9, 50);
        m.setRain(2);
        m.pass(4);
        return m;
    }

    /**
     * Field 0 rises by one an hour from field 1, and gives field 2, which lies 20 higher, its first water with the
     * 22nd hour and one more with each second one: 4 with the 28th, so that field 2 is ruined with the 33rd.
     */
    static MarshDrains lateByOneField() {
        MarshDrains m = new MarshDrains();
        m.addField(0, 0);
        m.addField(0, 0);
        m.addField(20, 50);
        m.addPump(1, 0, 1);
        m.addDitch(0, 2, 9);
        m.flood(1, 50);
        return m;
    }

    /** The same, but that five fields rise together, so that field 6 is ruined later than with the hundredth hour. */
    static MarshDrains lateByFiveFields() {
        MarshDrains m = new MarshDrains();
        for (int field = 0; field < 6; field++) {
            m.addField(0, 0);
        }
        m.addField(20, 50);
        for (int field = 0; field < 4; field++) {
            m.addDitch(field, field + 1, 9);
        }
        m.addDitch(0, 6, 9);
        m.addPump(5, 0, 1);
        for (int time = 0; time < 4; time++) {
            m.flood(5, 50);
        }
        return m;
    }
}
