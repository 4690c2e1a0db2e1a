import java.math.BigInteger;
import java.util.ArrayList;
import java.util.List;

/** Each sentence of the promises but those that begin with "Throws": the least, the most, none, several, and beyond. */
final class PromiseBounds {
    private final Checks c;
    private final Document doc;

    PromiseBounds(Checks c, Document doc) {
        this.c = c;
        this.doc = doc;
    }

    void test() {
        newObject();
        addField();
        addDitch();
        addPump();
        turn();
        setRain();
        flood();
        pass();
        counts();
        water();
        drained();
        wetFields();
        ruinedFieldsAndLoss();
        oneField();
        drainsAt();
        reachesNoneAndAll();
        reachesAsDrainsLead();
        highest();
        oneDrain();
        wouldCarry();
        busiest();
        hoursUntilRuined();
        lossIn();
        waterIn();
        bestToTurnNone();
        bestToTurnOfSeveral();
        bestToFlood();
        rainBorne();
        meanWater();
        digestOfAnEmptyMarsh();
        digestAsks12And10();
        digestWrapsAround();
        digestOfWhatIsSo();
        questionsChangeNothing();
    }

    private void newObject() {
        doc.promise(1, "Creates a marsh without fields, at the hour 0, without rain.");
        MarshDrains m = new MarshDrains();
        c.due("1 fields()", m.fields(), 0);
        c.due("1 drains()", m.drains(), 0);
        c.due("1 hour()", m.hour(), 0);
        c.due("1 rain()", m.rain(), 0);
        c.due("1 water()", m.water(), 0);
        c.due("1 drained()", m.drained(), 0);
        c.due("1 wetFields()", m.wetFields(), 0);
        c.due("1 ruinedFields()", m.ruinedFields(), 0);
        c.due("1 loss()", m.loss(), 0);
        c.due("1 pass(48)", m.pass(48), 0);
        c.due("1 lossIn(1)", m.lossIn(1), 0);
        c.due("1 lossIn(48)", m.lossIn(48), 0);
    }

    private void addField() {
        doc.promise(2, "Returns its number.");
        MarshDrains m = new MarshDrains();
        int[] floors = {0, 20, 0, 20, 1, 19, 10, 10, 0, 20};
        int[] worths = {0, 99, 99, 0, 98, 1, 50, 0, 0, 99};
        for (int number = 0; number < 10; number++) {
            c.due("2 addField", m.addField(floors[number], worths[number]), number);
        }
        MarshDrains later = Marshes.three();
        c.due("2 addField behind eight hours", later.addField(7, 7), 3);
        c.due("2 waterOn of a field that is new", later.waterOn(3), 0);
        c.due("2 wetFor of a field that is new", later.wetFor(3), 0);
        c.due("2 isRuined of a field that is new", later.isRuined(3), false);
        c.due("2 levelOf of a field that is new", later.levelOf(3), 7);
    }

    private void addDitch() {
        doc.promise(3, "Returns its number.");
        MarshDrains m = Marshes.flat(1, 1, 1, 1, 1, 1, 1, 1, 1, 1);
        for (int number = 0; number < 16; number++) {
            int got = m.addDitch(number % 2 == 0 ? 0 : 9, number % 2 == 0 ? 9 : 0, number % 3 == 0 ? 1 : 9);
            c.due("3 addDitch", got, number);
        }
    }

    private void addPump() {
        doc.promise(4, "Returns its number.");
        MarshDrains m = Marshes.flat(1, 1, 1, 1, 1, 1, 1, 1, 1, 1);
        for (int number = 0; number < 16; number++) {
            int got = m.addPump(number % 2 == 0 ? 0 : 9, number % 4 == 0 ? -1 : 4, number % 3 == 0 ? 1 : 9);
            c.due("4 addPump", got, number);
        }
        c.due("4 addPump to field 0 is not to the sea", toFieldZero(), 5);
    }

    private static int toFieldZero() {
        MarshDrains m = Marshes.flat(1, 1);
        m.addPump(1, 0, 9);
        m.flood(1, 5);
        m.pass(1);
        return m.waterOn(0) - m.drained();
    }

    private void turn() {
        doc.promise(5, "Shuts a drain that is open, and opens one that is shut.");
        doc.promise(5, "Returns whether it is open then.");
        MarshDrains m = Marshes.flat(1, 1);
        for (int number = 0; number < 16; number++) {
            m.addDitch(0, 1, 1);
        }
        for (int drain : new int[] {0, 15}) {
            for (int time = 0; time < 4; time++) {
                c.due("5 turn(" + drain + ")", m.turn(drain), time % 2 == 1);
                c.due("5 isOpen(" + drain + ")", m.isOpen(drain), time % 2 == 1);
                c.due("5 isOpen(7), not turned", m.isOpen(7), true);
            }
        }
    }

    private void setRain() {
        doc.promise(6, "Returns that of before.");
        MarshDrains m = Marshes.flat(1);
        int[] rains = {0, 9, 9, 1, 0, 8};
        int before = 0;
        for (int rain : rains) {
            c.due("6 setRain(" + rain + ")", m.setRain(rain), before);
            c.due("6 rain()", m.rain(), rain);
            before = rain;
        }
    }

    private void flood() {
        doc.promise(7, "Lets water in from the river.");
        doc.promise(7, "Returns how much water it has then.");
        MarshDrains m = Marshes.flat(1, 1, 1, 1, 1, 1, 1, 1, 1, 1);
        c.due("7 flood(0, 1)", m.flood(0, 1), 1);
        c.due("7 flood(0, 50)", m.flood(0, 50), 51);
        c.due("7 flood(9, 50)", m.flood(9, 50), 50);
        c.due("7 flood(9, 1)", m.flood(9, 1), 51);
        c.due("7 water()", m.water(), 102);
        c.due("7 hour()", m.hour(), 0);
    }

    private void pass() {
        doc.promise(8, "Lets hours go by.");
        doc.promise(8, "Returns how many fields are ruined in them.");
        MarshDrains m = Marshes.flat(1, 0, 1, 1, 1, 1, 1, 1, 1, 0);
        c.due("8 pass(48), dry", m.pass(48), 0);
        for (int field = 0; field < 9; field++) {
            m.flood(field, 4);
        }
        c.due("8 pass(5)", m.pass(5), 0);
        m.flood(9, 4);
        c.due("8 pass(1), nine at once, those without worth too", m.pass(1), 9);
        c.due("8 pass(4)", m.pass(4), 0);
        c.due("8 pass(1), the tenth", m.pass(1), 1);
        c.due("8 pass(48), none is left", m.pass(48), 0);
        c.due("8 hour()", m.hour(), 107);
        MarshDrains all = Marshes.flat(1, 1, 1, 1, 1, 1, 1, 1, 1, 1);
        all.setRain(9);
        c.due("8 pass(48), ten", all.pass(48), 10);
    }

    private void counts() {
        doc.promise(9, "Returns the hour.");
        doc.promise(10, "Returns how many fields there are.");
        doc.promise(11, "Returns how many drains there are.");
        doc.promise(12, "Returns the rain.");
        MarshDrains empty = new MarshDrains();
        MarshDrains full = Marshes.full();
        c.due("9 hour(), new", empty.hour(), 0);
        c.due("9 hour(), full", full.hour(), 4);
        c.due("10 fields(), none", empty.fields(), 0);
        c.due("10 fields(), full", full.fields(), 10);
        c.due("11 drains(), none", empty.drains(), 0);
        c.due("11 drains(), full, two of them shut", full.drains(), 16);
        c.due("12 rain(), none", empty.rain(), 0);
        full.setRain(9);
        c.due("12 rain(), the most", full.rain(), 9);
    }

    private void water() {
        doc.promise(13, "Returns all water on fields.");
        MarshDrains m = new MarshDrains();
        c.due("13 water() without fields", m.water(), 0);
        for (int field = 0; field < 10; field++) {
            m.addField(20, 0);
            c.due("13 water() of dry fields", m.water(), 50 * field);
            m.flood(field, 50);
        }
        c.due("13 water() of ten", m.water(), 500);
        m.addPump(9, -1, 9);
        m.pass(1);
        c.due("13 water() but what is in the sea", m.water(), 491);
    }

    private void drained() {
        doc.promise(14, "Returns how much water pumps carried to the sea in all.");
        MarshDrains m = Marshes.flat(1, 1);
        m.addPump(0, 1, 9);
        m.addPump(1, -1, 3);
        m.addPump(1, -1, 2);
        c.due("14 drained() at first", m.drained(), 0);
        m.flood(0, 9);
        m.pass(1);
        c.due("14 drained(), of two pumps", m.drained(), 5);
        m.pass(1);
        c.due("14 drained(), no more than there was", m.drained(), 9);
        m.turn(1);
        m.turn(2);
        m.flood(1, 50);
        m.pass(48);
        c.due("14 drained(), shut", m.drained(), 9);
    }

    private void wetFields() {
        doc.promise(15, "Returns how many fields are wet.");
        MarshDrains m = Marshes.flat(1, 1, 1, 1, 1, 1, 1, 1, 1, 1);
        c.due("15 wetFields() without fields", new MarshDrains().wetFields(), 0);
        for (int field = 0; field < 10; field++) {
            m.flood(field, 3);
            c.due("15 wetFields() with 3", m.wetFields(), field);
            m.flood(field, 1);
            c.due("15 wetFields() with 4", m.wetFields(), field + 1);
        }
        m.pass(6);
        c.due("15 wetFields(), ruined", m.wetFields(), 10);
    }

    private void ruinedFieldsAndLoss() {
        doc.promise(16, "Returns how many fields are ruined.");
        doc.promise(17, "Returns the worth of all fields that are ruined.");
        MarshDrains m = Marshes.flat(99, 99, 99, 99, 99, 99, 99, 99, 99, 0);
        c.due("16 ruinedFields() without fields", new MarshDrains().ruinedFields(), 0);
        c.due("17 loss() without fields", new MarshDrains().loss(), 0);
        m.flood(9, 4);
        m.pass(5);
        c.due("16 ruinedFields() behind five", m.ruinedFields(), 0);
        m.pass(1);
        c.due("16 ruinedFields(), worth 0", m.ruinedFields(), 1);
        c.due("17 loss(), worth 0", m.loss(), 0);
        m.setRain(9);
        m.pass(5);
        c.due("16 ruinedFields() behind five more", m.ruinedFields(), 1);
        m.pass(1);
        c.due("16 ruinedFields(), all", m.ruinedFields(), 10);
        c.due("17 loss(), all", m.loss(), 891);
    }

    private void oneField() {
        doc.promise(18, "Returns how much water it has.");
        doc.promise(19, "Returns how high its water stands; without water as high as its floor.");
        doc.promise(20, "Returns for how many hours in a row it is wet.");
        doc.promise(21, "Returns whether it is ruined.");
        MarshDrains m = new MarshDrains();
        for (int field = 0; field < 10; field++) {
            m.addField(field == 9 ? 20 : field, 1);
        }
        for (int field : new int[] {0, 9}) {
            int floor = field == 9 ? 20 : 0;
            c.due("18 waterOn(" + field + "), none", m.waterOn(field), 0);
            c.due("19 levelOf(" + field + "), without water", m.levelOf(field), floor);
            m.flood(field, 4);
            c.due("18 waterOn(" + field + ")", m.waterOn(field), 4);
            c.due("19 levelOf(" + field + ")", m.levelOf(field), floor + 4);
            m.pass(5);
            c.due("20 wetFor(" + field + "), five", m.wetFor(field), 5);
            c.due("21 isRuined(" + field + "), five", m.isRuined(field), false);
            m.pass(1);
            c.due("20 wetFor(" + field + "), six", m.wetFor(field), 6);
            c.due("21 isRuined(" + field + "), six", m.isRuined(field), true);
        }
        c.due("20 wetFor(8), dry", m.wetFor(8), 0);
        c.due("21 isRuined(8), dry", m.isRuined(8), false);
    }

    private void drainsAt() {
        doc.promise(22, "Returns how many open drains lead into it or out of it.");
        MarshDrains m = Marshes.flat(1, 1, 1);
        c.due("22 drainsAt(0), none", m.drainsAt(0), 0);
        m.addDitch(0, 1, 1);
        m.addDitch(1, 0, 1);
        m.addPump(0, 1, 1);
        m.addPump(1, 0, 1);
        c.due("22 drainsAt(0), each kind in and out", m.drainsAt(0), 4);
        c.due("22 drainsAt(1), each kind in and out", m.drainsAt(1), 4);
        for (int drain = 4; drain < 16; drain++) {
            m.addPump(0, -1, 1);
        }
        c.due("22 drainsAt(0), all", m.drainsAt(0), 16);
        c.due("22 drainsAt(1), not those to the sea", m.drainsAt(1), 4);
        c.due("22 drainsAt(2), none of them", m.drainsAt(2), 0);
        for (int drain = 0; drain < 16; drain++) {
            m.turn(drain);
            c.due("22 drainsAt(0) with those behind " + drain, m.drainsAt(0), 15 - drain);
        }
        c.due("22 drainsAt(1), all shut", m.drainsAt(1), 0);
    }

    private void reachesNoneAndAll() {
        doc.promise(23, "Returns how many fields water can come to from it by open drains, one behind the other,");
        doc.promise(23, "itself not:");
        MarshDrains one = Marshes.flat(1);
        c.due("23 reaches(0), alone", one.reaches(0), 0);
        one.addPump(0, -1, 1);
        c.due("23 reaches(0), the sea is no field", one.reaches(0), 0);
        MarshDrains ring = Marshes.flat(1, 1, 1, 1, 1, 1, 1, 1, 1, 1);
        for (int field = 0; field < 10; field++) {
            c.due("23 reaches(0) of so many", ring.reaches(0), field);
            ring.addPump(field, (field + 1) % 10, 1);
        }
        for (int field = 0; field < 10; field++) {
            c.due("23 reaches(" + field + ") in a ring of all", ring.reaches(field), 9);
        }
        ring.turn(4);
        c.due("23 reaches(5), the ring is cut before it", ring.reaches(5), 9);
        c.due("23 reaches(4), the ring is cut behind it", ring.reaches(4), 0);
        c.due("23 reaches(0), the ring is cut", ring.reaches(0), 4);
        MarshDrains against = Marshes.flat(1, 1, 1, 1, 1, 1, 1, 1, 1, 1);
        for (int field = 8; field >= 0; field--) {
            against.addPump(field, field + 1, 1);
        }
        c.due("23 reaches(0), nine one behind the other, the first drain last", against.reaches(0), 9);
        MarshDrains twice = Marshes.flat(1, 1, 1);
        twice.addDitch(0, 1, 1);
        twice.addDitch(0, 1, 1);
        twice.addPump(1, 0, 1);
        c.due("23 reaches(0) by several, once", twice.reaches(0), 1);
    }

    private void reachesAsDrainsLead() {
        doc.promise(23, "by ditches either way, by pumps as they lead; however high it stands.");
        MarshDrains m = new MarshDrains();
        m.addField(0, 1);
        m.addField(20, 1);
        m.addField(10, 1);
        m.addDitch(0, 1, 1);
        m.addPump(1, 2, 1);
        m.flood(1, 50);
        c.due("23 reaches(0), up by a ditch and on by a pump", m.reaches(0), 2);
        c.due("23 reaches(1), back by a ditch", m.reaches(1), 2);
        c.due("23 reaches(2), never back by a pump", m.reaches(2), 0);
        m.turn(0);
        c.due("23 reaches(0), the ditch is shut", m.reaches(0), 0);
        c.due("23 reaches(1), the ditch is shut", m.reaches(1), 1);
        // The sea must not be taken for a field, as the way from one to another.
        m.addPump(0, -1, 1);
        m.addPump(2, -1, 1);
        c.due("23 reaches(2), not on from the sea", m.reaches(2), 0);
    }

    private void highest() {
        doc.promise(24, "Returns the field whose water stands highest, of several the smallest number; -1 without fields.");
        MarshDrains m = new MarshDrains();
        c.due("24 highest() without fields", m.highest(), -1);
        for (int field = 0; field < 10; field++) {
            m.addField(0, 1);
            c.due("24 highest() of the same", m.highest(), 0);
        }
        m.flood(9, 1);
        c.due("24 highest(), the last by 1", m.highest(), 9);
        m.flood(5, 1);
        c.due("24 highest() of 5 and 9", m.highest(), 5);
        MarshDrains floors = new MarshDrains();
        floors.addField(0, 1);
        floors.addField(20, 1);
        floors.flood(0, 20);
        c.due("24 highest(), 20 of water and floor 20", floors.highest(), 0);
        floors.flood(1, 1);
        c.due("24 highest(), with more of water or not", floors.highest(), 1);
    }

    private void oneDrain() {
        doc.promise(25, "Returns whether it is a pump.");
        doc.promise(26, "Returns whether it is open.");
        doc.promise(27, "Returns how much it carried in all.");
        MarshDrains m = Marshes.flat(1, 1);
        for (int drain = 0; drain < 16; drain++) {
            int got = drain % 15 == 0 ? m.addPump(0, -1, 9) : m.addDitch(0, 1, 9);
            c.due("25 a drain's number", got, drain);
            if (drain != 0) {
                m.turn(drain);
            }
        }
        c.due("25 isPump(0)", m.isPump(0), true);
        c.due("25 isPump(14)", m.isPump(14), false);
        c.due("25 isPump(15)", m.isPump(15), true);
        c.due("26 isOpen(0)", m.isOpen(0), true);
        c.due("26 isOpen(15)", m.isOpen(15), false);
        c.due("27 carriedBy(0), nothing", m.carriedBy(0), 0);
        m.flood(0, 20);
        m.pass(48);
        c.due("27 carriedBy(0), all that there was", m.carriedBy(0), 20);
        c.due("27 carriedBy(15), shut", m.carriedBy(15), 0);
        m.turn(15);
        m.turn(0);
        m.flood(0, 9);
        m.pass(1);
        c.due("27 carriedBy(15)", m.carriedBy(15), 9);
        c.due("27 carriedBy(0), though shut", m.carriedBy(0), 20);
    }

    private void wouldCarry() {
        doc.promise(28, "Returns how much it would carry now, if it was the only one; 0 if it is shut (nothing is changed).");
        MarshDrains m = Marshes.flat(1, 1);
        for (int drain = 0; drain < 16; drain++) {
            m.addPump(0, -1, 9);
        }
        m.addField(20, 1);
        m.setRain(9);
        c.due("28 wouldCarry(15), without the rain that is to come", m.wouldCarry(15), 0);
        m.flood(0, 9);
        c.due("28 wouldCarry(0)", m.wouldCarry(0), 9);
        c.due("28 wouldCarry(15), as the only one", m.wouldCarry(15), 9);
        m.turn(15);
        c.due("28 wouldCarry(15), shut", m.wouldCarry(15), 0);
        c.due("28 waterOn(0), nothing is changed", m.waterOn(0), 9);
        c.due("28 carriedBy(0), nothing is changed", m.carriedBy(0), 0);
        c.due("28 drained(), nothing is changed", m.drained(), 0);
        c.due("28 isOpen(15), nothing is changed", m.isOpen(15), false);
    }

    private void busiest() {
        doc.promise(29, "Returns the drain that carried the most in all, of several the smallest number; -1 without drains.");
        MarshDrains m = new MarshDrains();
        c.due("29 busiest() without fields", m.busiest(), -1);
        m.addField(0, 1);
        m.addField(0, 1);
        c.due("29 busiest() without drains", m.busiest(), -1);
        for (int drain = 0; drain < 16; drain++) {
            m.addPump(drain == 15 ? 1 : 0, -1, 9);
            c.due("29 busiest(), all 0", m.busiest(), 0);
        }
        m.flood(1, 1);
        m.pass(1);
        c.due("29 busiest(), the last by 1", m.busiest(), 15);
        for (int drain = 0; drain < 7; drain++) {
            m.turn(drain);
        }
        m.flood(0, 1);
        m.pass(1);
        c.due("29 busiest() of 7 and 15", m.busiest(), 7);
    }

    private void hoursUntilRuined() {
        doc.promise(30, "Returns in how many hours it is ruined, if nothing is done by hand:");
        doc.promise(30, "0 if it is now, at most 100; -1 if not by then (nothing is changed).");
        MarshDrains late = Marshes.lateByFiveFields();
        late.pass(23);
        c.due("30 hoursUntilRuined(6), 101", late.hoursUntilRuined(6), -1);
        late.pass(1);
        c.due("30 hoursUntilRuined(6), 100", late.hoursUntilRuined(6), 100);
        late.pass(1);
        c.due("30 hoursUntilRuined(6), 99", late.hoursUntilRuined(6), 99);
        late.pass(48);
        late.pass(48);
        late.pass(2);
        c.due("30 hoursUntilRuined(6), 1", late.hoursUntilRuined(6), 1);
        c.due("30 isRuined(6), not yet", late.isRuined(6), false);
        late.pass(1);
        c.due("30 hoursUntilRuined(6), now", late.hoursUntilRuined(6), 0);
        c.due("30 isRuined(6), now", late.isRuined(6), true);
        late.pass(1);
        c.due("30 hoursUntilRuined(6), since an hour", late.hoursUntilRuined(6), 0);
        c.due("30 hoursUntilRuined(0) of a dry field", Marshes.flat(1).hoursUntilRuined(0), -1);
    }

    private void lossIn() {
        doc.promise(31, "Returns loss() behind them, if nothing is done by hand (nothing is changed).");
        MarshDrains m = Marshes.lateByFiveFields();
        m.pass(48);
        m.pass(27);
        c.due("31 hoursUntilRuined(6)", m.hoursUntilRuined(6), 49);
        c.due("31 lossIn(48), one too few", m.lossIn(48), 0);
        m.pass(1);
        c.due("31 lossIn(48)", m.lossIn(48), 50);
        c.due("31 lossIn(47), one too few", m.lossIn(47), 0);
        m.pass(46);
        c.due("31 lossIn(1), one too few", m.lossIn(1), 0);
        c.due("31 lossIn(2)", m.lossIn(2), 50);
        m.pass(1);
        c.due("31 lossIn(1)", m.lossIn(1), 50);
        c.due("31 loss(), nothing is changed", m.loss(), 0);
        m.pass(1);
        c.due("31 lossIn(1), ruined", m.lossIn(1), 50);
    }

    private void waterIn() {
        doc.promise(32, "Returns how much water it has behind them, if nothing is done by hand (nothing is changed).");
        MarshDrains m = Marshes.flat(1, 1);
        m.addPump(0, 1, 1);
        m.flood(0, 48);
        m.flood(1, 1);
        c.due("32 waterIn(0, 1)", m.waterIn(0, 1), 47);
        c.due("32 waterIn(0, 47)", m.waterIn(0, 47), 1);
        c.due("32 waterIn(0, 48)", m.waterIn(0, 48), 0);
        c.due("32 waterIn(1, 1)", m.waterIn(1, 1), 2);
        c.due("32 waterIn(1, 48)", m.waterIn(1, 48), 49);
        c.due("32 waterOn(0), nothing is changed", m.waterOn(0), 48);
        c.due("32 hour(), nothing is changed", m.hour(), 0);
    }

    private void bestToTurnNone() {
        doc.promise(33, "-1 if by none it is less than without (nothing is changed).");
        c.due("33 bestToTurn() without fields", new MarshDrains().bestToTurn(), -1);
        MarshDrains m = Marshes.flat(10, 10);
        m.flood(0, 20);
        c.due("33 bestToTurn() without drains", m.bestToTurn(), -1);
        m.addPump(0, 1, 9);
        c.due("33 lossIn(24), open", m.lossIn(24), 10);
        m.turn(0);
        c.due("33 lossIn(24), shut, as much", m.lossIn(24), 10);
        c.due("33 bestToTurn(), as much but not less", m.bestToTurn(), -1);
        m.addPump(0, -1, 9);
        c.due("33 lossIn(24), drained in time", m.lossIn(24), 0);
        c.due("33 bestToTurn(), what is turned would be worse", m.bestToTurn(), -1);
        c.due("33 isOpen(0), nothing is changed", m.isOpen(0), false);
        c.due("33 isOpen(1), nothing is changed", m.isOpen(1), true);
    }

    private void bestToTurnOfSeveral() {
        doc.promise(33, "Returns the drain by whose turning now lossIn() of 24 hours would be the least,");
        doc.promise(33, "of several the smallest number;");
        MarshDrains m = Marshes.flat(1, 2, 2, 3, 3);
        int[] froms = {0, 1, 2, 4, 3, 4};
        for (int drain = 0; drain < froms.length; drain++) {
            m.addPump(froms[drain], -1, 9);
            m.turn(drain);
        }
        for (int field = 0; field < 5; field++) {
            m.flood(field, 20);
        }
        c.due("33 bestToTurn(), three that save 3", m.bestToTurn(), 3);
        m.turn(3);
        c.due("33 bestToTurn(), one that saves 3", m.bestToTurn(), 4);
        m.turn(4);
        c.due("33 bestToTurn(), two that save 2", m.bestToTurn(), 1);
        m.turn(1);
        c.due("33 bestToTurn(), one that saves 2", m.bestToTurn(), 2);
        m.turn(2);
        c.due("33 bestToTurn(), the first saves 1", m.bestToTurn(), 0);
        m.turn(0);
        c.due("33 bestToTurn(), all is saved", m.bestToTurn(), -1);
        MarshDrains day = Marshes.lateByOneField();
        day.pass(8);
        c.due("33 bestToTurn(), lost with the 25th hour", day.bestToTurn(), -1);
        day.pass(1);
        c.due("33 bestToTurn(), lost with the 24th hour", day.bestToTurn(), 0);
    }

    private void bestToFlood() {
        doc.promise(34, "Returns the field into which one had best let it now, so that lossIn() of 24 hours is the least,");
        doc.promise(34, "of several the smallest number; -1 without fields (nothing is changed).");
        c.due("34 bestToFlood(1) without fields", new MarshDrains().bestToFlood(1), -1);
        c.due("34 bestToFlood(50) without fields", new MarshDrains().bestToFlood(50), -1);
        MarshDrains m = Marshes.flat(9, 8, 7, 7, 9);
        c.due("34 bestToFlood(1), nothing lost by any", m.bestToFlood(1), 0);
        c.due("34 bestToFlood(3), nothing lost by any", m.bestToFlood(3), 0);
        c.due("34 bestToFlood(4), of two that are worth 7", m.bestToFlood(4), 2);
        c.due("34 bestToFlood(50), of two that are worth 7", m.bestToFlood(50), 2);
        m.flood(3, 4);
        c.due("34 bestToFlood(4), what is lost as well", m.bestToFlood(4), 3);
        m.flood(4, 4);
        m.pass(6);
        c.due("34 bestToFlood(50) of two that are ruined", m.bestToFlood(50), 3);
        c.due("34 water(), nothing is changed", m.water(), 8);
        c.due("34 bestToFlood(50) of one", Marshes.flat(99).bestToFlood(50), 0);
        MarshDrains last = Marshes.flat(9, 9, 9, 9, 9, 9, 9, 9, 9, 0);
        c.due("34 bestToFlood(50), the last of ten", last.bestToFlood(50), 9);
    }

    private void rainBorne() {
        doc.promise(35, "Returns the greatest rain, 0 to 9, with which lossIn() of 24 hours is loss();");
        doc.promise(35, "-1 if not even without rain (nothing is changed).");
        for (int carries = 1; carries <= 9; carries++) {
            MarshDrains m = Marshes.flat(1);
            m.addPump(0, -1, carries);
            m.setRain(5);
            c.due("35 rainBorne(), a pump of " + carries, m.rainBorne(), carries);
            c.due("35 rain(), nothing is changed", m.rain(), 5);
        }
        MarshDrains m = Marshes.flat(1, 1);
        c.due("35 rainBorne() without fields", new MarshDrains().rainBorne(), 9);
        c.due("35 rainBorne(), without any rain alone", m.rainBorne(), 0);
        m.flood(1, 3);
        c.due("35 rainBorne() with 3 of water", m.rainBorne(), 0);
        m.flood(1, 1);
        c.due("35 rainBorne() with 4 of water", m.rainBorne(), -1);
        m.pass(6);
        c.due("35 rainBorne(), one is lost, the other one is not", m.rainBorne(), 0);
        m.flood(0, 4);
        m.pass(6);
        c.due("35 rainBorne(), all is lost", m.rainBorne(), 9);
        MarshDrains day = Marshes.lateByOneField();
        day.pass(8);
        c.due("35 rainBorne(), lost with the 25th hour", day.rainBorne(), 0);
        day.pass(1);
        c.due("35 rainBorne(), lost with the 24th hour", day.rainBorne(), -1);
    }

    private void meanWater() {
        doc.promise(36, "Returns the mean water of fields; 0 without any.");
        MarshDrains m = new MarshDrains();
        c.due("36 meanWater() without fields", m.meanWater(), 0.0);
        m.addField(20, 1);
        c.due("36 meanWater() of a dry field", m.meanWater(), 0.0);
        m.flood(0, 1);
        c.due("36 meanWater() of one", m.meanWater(), 1.0);
        for (int fields = 2; fields <= 10; fields++) {
            m.addField(20, 1);
            c.due("36 meanWater() of " + fields, m.meanWater(), 1.0 / fields);
        }
        m.setRain(9);
        m.pass(48);
        c.due("36 meanWater() of ten", m.meanWater(), 432.1);
    }

    /** The document's sum without a bound, and only then cut to 64 bits. */
    private static long wrapped(List<Integer> numbers) {
        BigInteger d = BigInteger.valueOf(2341);
        for (int x : numbers) {
            d = d.multiply(BigInteger.valueOf(31)).add(BigInteger.valueOf(x));
        }
        return d.longValue();
    }

    private static List<Integer> digested(MarshDrains m) {
        List<Integer> all = new ArrayList<>(List.of(m.hour(), m.fields(), m.drains(), m.rain(), m.water(), m.drained()));
        all.addAll(List.of(m.wetFields(), m.loss(), m.highest(), m.busiest(), m.lossIn(12), m.bestToTurn()));
        all.addAll(List.of(m.bestToFlood(10), m.rainBorne()));
        for (int f = 0; f < m.fields(); f++) {
            all.addAll(List.of(m.waterOn(f), m.wetFor(f), m.isRuined(f) ? 1 : 0, m.drainsAt(f), m.reaches(f)));
            all.add(m.hoursUntilRuined(f));
        }
        for (int drain = 0; drain < m.drains(); drain++) {
            all.addAll(List.of(m.isOpen(drain) ? 1 : 0, m.carriedBy(drain), m.wouldCarry(drain)));
        }
        return all;
    }

    private void digestOfAnEmptyMarsh() {
        doc.promise(37, "Computes a checksum. A number d starts with 2341;");
        doc.promise(37, "for each of the following numbers x, d becomes d * 31 + x,");
        doc.promise(37, "hour(), fields(), drains(), rain(), water(), drained(), wetFields(), loss(), highest(), busiest(),");
        doc.promise(37, "lossIn(12), bestToTurn(), bestToFlood(10), rainBorne();");
        doc.promise(37, "Returns d.");
        List<Integer> none = List.of(0, 0, 0, 0, 0, 0, 0, 0, -1, -1, 0, -1, -1, 9);
        c.due("37 digest() of an empty marsh", new MarshDrains().digest(), wrapped(none));
        List<Integer> dry = List.of(0, 1, 0, 0, 0, 0, 0, 0, 0, -1, 0, -1, 0, 0, 0, 0, 0, 0, 0, -1);
        c.due("37 digest() of one dry field", Marshes.flat(1).digest(), wrapped(dry));
    }

    /** States in which 11 or 13 hours, or 9 or 11 of water, would be answered in another way. */
    private void digestAsks12And10() {
        MarshDrains late = Marshes.lateByOneField();
        late.pass(20);
        c.due("37 lossIn(12), thirteen hours left", late.lossIn(12), 0);
        c.due("37 digest(), thirteen hours left", late.digest(), wrapped(digested(late)));
        late.pass(1);
        c.due("37 lossIn(12), twelve hours left", late.lossIn(12), 50);
        c.due("37 digest(), twelve hours left", late.digest(), wrapped(digested(late)));
        for (int water = 4; water <= 6; water++) {
            MarshDrains m = Marshes.flat(20, 10);
            m.addPump(0, -1, 2);
            m.flood(0, water);
            // Of 15 the pump leaves 3 with the sixth hour, of 16 it leaves 4.
            c.due("37 bestToFlood(10) onto " + water, m.bestToFlood(10), water == 6 ? 1 : 0);
            c.due("37 digest() with " + water, m.digest(), wrapped(digested(m)));
        }
    }

    private void digestWrapsAround() {
        doc.promise(37, "which wraps around as a 64-bit integer");
        boolean below = false;
        boolean above = false;
        MarshDrains m = Marshes.full();
        for (int hour = 0; hour < 3; hour++) {
            long due = wrapped(digested(m));
            c.due("37 digest() of a full marsh", m.digest(), due);
            below |= due < 0;
            above |= due > 0;
            m.pass(7);
        }
        MarshDrains few = Marshes.three();
        c.due("37 digest() of three fields", few.digest(), wrapped(digested(few)));
        below |= few.digest() < 0;
        above |= few.digest() > 0;
        c.due("37 the examples wrap to below 0", below, true);
        c.due("37 the examples wrap to above 0", above, true);
    }

    private void digestOfWhatIsSo() {
        doc.promise(37, "(whether something is so counts 1 or 0):");
        doc.promise(37, "then for each field waterOn(), wetFor(), isRuined(), drainsAt(), reaches(), hoursUntilRuined();");
        doc.promise(37, "for each drain isOpen(), carriedBy(), wouldCarry().");
        MarshDrains m = Marshes.flat(3);
        m.addPump(0, -1, 2);
        m.flood(0, 30);
        m.pass(6);
        List<Integer> open = List.of(6, 1, 1, 0, 18, 12, 1, 3, 0, 0, 3, -1, 0, 9, 18, 6, 1, 1, 0, 0, 1, 12, 2);
        c.due("37 digest(), ruined and open", m.digest(), wrapped(open));
        m.turn(0);
        List<Integer> shut = List.of(6, 1, 1, 0, 18, 12, 1, 3, 0, 0, 3, -1, 0, 9, 18, 6, 1, 0, 0, 0, 0, 12, 0);
        c.due("37 digest(), ruined and shut", m.digest(), wrapped(shut));
    }

    /** An asked marsh and one that was never asked stay alike. */
    private void questionsChangeNothing() {
        for (Marshes.Maker maker : List.<Marshes.Maker>of(MarshDrains::new, Marshes::three, Marshes::full)) {
            MarshDrains asked = maker.make();
            MarshDrains left = maker.make();
            List<String> first = Answers.of(asked);
            c.due("answers stay the same", Answers.difference(Answers.of(asked), first), "");
            asked.pass(1);
            left.pass(1);
            c.due("answers later", Answers.difference(Answers.of(asked), Answers.of(left)), "");
        }
    }
}
