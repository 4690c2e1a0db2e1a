/** Promises 1 to 8: fields, drains, what is done by hand, and how an hour goes. */
public final class BuildingTest {
    private static final Checks c = new Checks();

    public static void main(String[] args) {
        promise1NewObject();
        promise2AddField();
        promise3AddDitch();
        promise3DitchRefused();
        promise4AddPump();
        promise4PumpRefused();
        promises3And4Full();
        promise5Turn();
        promise6SetRain();
        promise7Flood();
        promise8Pass();
        promise8HoursOneByOneAndTogether();
        hourRainComesFirst();
        hourDrainsByNumbers();
        hourDitchBounds();
        hourPumpBounds();
        hourWetAndRuined();
        c.end();
    }

    private static void promise1NewObject() {
        MarshDrains m = new MarshDrains();
        c.due("1 hour()", m.hour(), 0);
        c.due("1 fields()", m.fields(), 0);
        c.due("1 drains()", m.drains(), 0);
        c.due("1 rain()", m.rain(), 0);
        c.due("1 water()", m.water(), 0);
        c.due("1 drained()", m.drained(), 0);
        MarshDrains other = new MarshDrains();
        m.addField(1, 1);
        m.setRain(3);
        m.pass(2);
        c.due("1 another's fields()", other.fields(), 0);
        c.due("1 another's rain()", other.rain(), 0);
        c.due("1 another's hour()", other.hour(), 0);
    }

    private static void promise2AddField() {
        MarshDrains m = new MarshDrains();
        c.illegal("2 addField(-1, 0)", () -> m.addField(-1, 0));
        c.illegal("2 addField(21, 0)", () -> m.addField(21, 0));
        c.illegal("2 addField(0, -1)", () -> m.addField(0, -1));
        c.illegal("2 addField(0, 100)", () -> m.addField(0, 100));
        c.illegal("2 addField(MIN, 0)", () -> m.addField(Integer.MIN_VALUE, 0));
        c.illegal("2 addField(0, MAX)", () -> m.addField(0, Integer.MAX_VALUE));
        c.due("2 fields() after refusals", m.fields(), 0);
        c.due("2 addField(0, 0)", m.addField(0, 0), 0);
        c.due("2 addField(20, 99)", m.addField(20, 99), 1);
        for (int number = 2; number < 10; number++) {
            c.due("2 addField " + number, m.addField(number, 10 * number), number);
        }
        c.illegal("2 addField(21, 0) with ten", () -> m.addField(21, 0));
        c.illegal("2 addField(0, 100) with ten", () -> m.addField(0, 100));
        c.full("2 addField(0, 0) with ten", () -> m.addField(0, 0));
        c.due("2 fields() with ten", m.fields(), 10);
        c.due("2 levelOf(0)", m.levelOf(0), 0);
        c.due("2 levelOf(1)", m.levelOf(1), 20);
        c.due("2 waterOn(9)", m.waterOn(9), 0);
        c.due("2 wetFor(9)", m.wetFor(9), 0);
        c.due("2 isRuined(9)", m.isRuined(9), false);
    }

    private static MarshDrains threeFields() {
        MarshDrains m = new MarshDrains();
        m.addField(0, 10);
        m.addField(0, 20);
        m.addField(0, 30);
        return m;
    }

    private static void promise3AddDitch() {
        MarshDrains m = threeFields();
        c.due("3 addDitch(0, 1, 1)", m.addDitch(0, 1, 1), 0);
        c.due("3 addDitch(2, 0, 9)", m.addDitch(2, 0, 9), 1);
        c.due("3 addDitch(0, 1, 1) beside its like", m.addDitch(0, 1, 1), 2);
        c.due("3 drains()", m.drains(), 3);
        c.due("3 isPump(0)", m.isPump(0), false);
        c.due("3 isOpen(1)", m.isOpen(1), true);
        c.due("3 carriedBy(1)", m.carriedBy(1), 0);
    }

    private static void promise3DitchRefused() {
        MarshDrains m = threeFields();
        c.noSuch("3 addDitch(-1, 0, 1)", () -> m.addDitch(-1, 0, 1));
        c.noSuch("3 addDitch(3, 0, 1)", () -> m.addDitch(3, 0, 1));
        c.noSuch("3 addDitch(0, -1, 1)", () -> m.addDitch(0, -1, 1));
        c.noSuch("3 addDitch(0, 3, 1)", () -> m.addDitch(0, 3, 1));
        c.noSuch("3 addDitch(3, 3, 0)", () -> m.addDitch(3, 3, 0));
        c.noSuch("3 addDitch(0, MAX, 0)", () -> m.addDitch(0, Integer.MAX_VALUE, 0));
        c.noSuch("3 addDitch(MIN, 0, 1)", () -> m.addDitch(Integer.MIN_VALUE, 0, 1));
        c.illegal("3 addDitch(1, 1, 1)", () -> m.addDitch(1, 1, 1));
        c.illegal("3 addDitch(0, 1, 0)", () -> m.addDitch(0, 1, 0));
        c.illegal("3 addDitch(0, 1, 10)", () -> m.addDitch(0, 1, 10));
        c.illegal("3 addDitch(0, 1, -1)", () -> m.addDitch(0, 1, -1));
        c.due("3 drains() after refusals", m.drains(), 0);
    }

    private static void promise4AddPump() {
        MarshDrains m = threeFields();
        c.due("4 addPump(0, 1, 1)", m.addPump(0, 1, 1), 0);
        c.due("4 addPump(2, -1, 9)", m.addPump(2, -1, 9), 1);
        c.due("4 addDitch(0, 1, 2)", m.addDitch(0, 1, 2), 2);
        c.due("4 drains()", m.drains(), 3);
        c.due("4 isPump(0)", m.isPump(0), true);
        c.due("4 isPump(1)", m.isPump(1), true);
        c.due("4 isPump(2)", m.isPump(2), false);
        c.due("4 isOpen(1)", m.isOpen(1), true);
    }

    private static void promise4PumpRefused() {
        MarshDrains m = threeFields();
        c.noSuch("4 addPump(-1, 0, 1)", () -> m.addPump(-1, 0, 1));
        c.noSuch("4 addPump(-1, -1, 1)", () -> m.addPump(-1, -1, 1));
        c.noSuch("4 addPump(3, 0, 1)", () -> m.addPump(3, 0, 1));
        c.noSuch("4 addPump(0, -2, 1)", () -> m.addPump(0, -2, 1));
        c.noSuch("4 addPump(0, 3, 1)", () -> m.addPump(0, 3, 1));
        c.noSuch("4 addPump(3, 3, 10)", () -> m.addPump(3, 3, 10));
        c.noSuch("4 addPump(0, -2, 10)", () -> m.addPump(0, -2, 10));
        c.illegal("4 addPump(2, 2, 1)", () -> m.addPump(2, 2, 1));
        c.illegal("4 addPump(0, -1, 0)", () -> m.addPump(0, -1, 0));
        c.illegal("4 addPump(0, 1, 10)", () -> m.addPump(0, 1, 10));
        c.due("4 drains() after refusals", m.drains(), 0);
    }

    private static void promises3And4Full() {
        MarshDrains m = threeFields();
        for (int number = 0; number < 16; number++) {
            int got = number % 2 == 0 ? m.addDitch(0, 1, 5) : m.addPump(1, -1, 5);
            c.due("3, 4 drain " + number, got, number);
        }
        c.full("3 addDitch(0, 1, 5) with sixteen", () -> m.addDitch(0, 1, 5));
        c.full("4 addPump(0, 1, 5) with sixteen", () -> m.addPump(0, 1, 5));
        c.full("4 addPump(0, -1, 5) with sixteen", () -> m.addPump(0, -1, 5));
        c.illegal("3 addDitch(0, 0, 5) with sixteen", () -> m.addDitch(0, 0, 5));
        c.illegal("3 addDitch(0, 1, 10) with sixteen", () -> m.addDitch(0, 1, 10));
        c.illegal("4 addPump(0, 0, 5) with sixteen", () -> m.addPump(0, 0, 5));
        c.illegal("4 addPump(0, -1, 0) with sixteen", () -> m.addPump(0, -1, 0));
        c.noSuch("3 addDitch(0, 3, 5) with sixteen", () -> m.addDitch(0, 3, 5));
        c.noSuch("4 addPump(0, -2, 5) with sixteen", () -> m.addPump(0, -2, 5));
        c.due("3, 4 drains() with sixteen", m.drains(), 16);
    }

    private static void promise5Turn() {
        MarshDrains m = threeFields();
        c.noSuch("5 turn(0) without drains", () -> m.turn(0));
        m.addPump(0, -1, 4);
        m.addPump(1, -1, 4);
        c.due("5 turn(0)", m.turn(0), false);
        c.due("5 isOpen(0)", m.isOpen(0), false);
        c.due("5 isOpen(1)", m.isOpen(1), true);
        m.flood(0, 10);
        m.flood(1, 10);
        m.pass(1);
        c.due("5 waterOn(0) shut", m.waterOn(0), 10);
        c.due("5 waterOn(1) open", m.waterOn(1), 6);
        c.due("5 turn(0) again", m.turn(0), true);
        m.pass(1);
        c.due("5 waterOn(0) opened", m.waterOn(0), 6);
        c.noSuch("5 turn(-1)", () -> m.turn(-1));
        c.noSuch("5 turn(2)", () -> m.turn(2));
        c.noSuch("5 turn(MAX)", () -> m.turn(Integer.MAX_VALUE));
    }

    private static void promise6SetRain() {
        MarshDrains m = threeFields();
        c.due("6 setRain(9)", m.setRain(9), 0);
        c.due("6 setRain(4)", m.setRain(4), 9);
        c.illegal("6 setRain(-1)", () -> m.setRain(-1));
        c.illegal("6 setRain(10)", () -> m.setRain(10));
        c.due("6 rain() after refusals", m.rain(), 4);
        m.pass(2);
        c.due("6 waterOn(0)", m.waterOn(0), 8);
        c.due("6 waterOn(2)", m.waterOn(2), 8);
        c.due("6 setRain(0)", m.setRain(0), 4);
        m.pass(2);
        c.due("6 waterOn(0) without rain", m.waterOn(0), 8);
    }

    private static void promise7Flood() {
        MarshDrains m = threeFields();
        c.due("7 flood(1, 1)", m.flood(1, 1), 1);
        c.due("7 flood(1, 50)", m.flood(1, 50), 51);
        c.due("7 waterOn(0)", m.waterOn(0), 0);
        c.due("7 waterOn(1)", m.waterOn(1), 51);
        c.illegal("7 flood(0, 0)", () -> m.flood(0, 0));
        c.illegal("7 flood(0, 51)", () -> m.flood(0, 51));
        c.illegal("7 flood(0, -1)", () -> m.flood(0, -1));
        c.noSuch("7 flood(-1, 1)", () -> m.flood(-1, 1));
        c.noSuch("7 flood(3, 1)", () -> m.flood(3, 1));
        c.noSuch("7 flood(3, 0)", () -> m.flood(3, 0));
        c.due("7 water() after refusals", m.water(), 51);
        c.due("7 hour()", m.hour(), 0);
    }

    private static void promise8Pass() {
        MarshDrains m = threeFields();
        m.flood(0, 4);
        m.flood(1, 3);
        c.due("8 pass(1)", m.pass(1), 0);
        c.due("8 pass(4)", m.pass(4), 0);
        m.flood(1, 1);
        c.due("8 pass(1), the sixth hour", m.pass(1), 1);
        c.due("8 pass(1), none anew", m.pass(1), 0);
        m.flood(2, 9);
        c.due("8 pass(48), two anew", m.pass(48), 2);
        c.due("8 hour()", m.hour(), 55);
        c.illegal("8 pass(0)", () -> m.pass(0));
        c.illegal("8 pass(49)", () -> m.pass(49));
        c.illegal("8 pass(-1)", () -> m.pass(-1));
        c.due("8 hour() after refusals", m.hour(), 55);
        c.due("8 pass(48) of no fields", new MarshDrains().pass(48), 0);
    }

    private static void promise8HoursOneByOneAndTogether() {
        MarshDrains together = threeFields();
        MarshDrains single = threeFields();
        for (MarshDrains m : new MarshDrains[] {together, single}) {
            m.addDitch(0, 1, 3);
            m.addPump(1, 2, 2);
            m.addPump(2, -1, 1);
            m.setRain(2);
        }
        together.pass(20);
        int ruined = 0;
        for (int hour = 0; hour < 20; hour++) {
            ruined += single.pass(1);
        }
        c.due("8 ruined one by one", ruined, together.ruinedFields());
        c.due("8 digest() one by one", single.digest(), together.digest());
    }

    private static void hourRainComesFirst() {
        MarshDrains m = threeFields();
        m.addPump(0, -1, 5);
        m.setRain(3);
        m.pass(1);
        c.due("hour: rain is pumped in its hour", m.waterOn(0), 0);
        c.due("hour: drained()", m.drained(), 3);
        c.due("hour: rain on field 1", m.waterOn(1), 3);
    }

    private static void hourDrainsByNumbers() {
        MarshDrains m = threeFields();
        m.addPump(0, 1, 5);
        m.addPump(1, 2, 5);
        m.flood(0, 5);
        m.pass(1);
        c.due("hour: on through both pumps", m.waterOn(2), 5);
        MarshDrains back = threeFields();
        back.addPump(1, 2, 5);
        back.addPump(0, 1, 5);
        back.flood(0, 5);
        back.pass(1);
        c.due("hour: not through the earlier pump", back.waterOn(2), 0);
        c.due("hour: stays between", back.waterOn(1), 5);
        back.pass(1);
        c.due("hour: through it in the next hour", back.waterOn(2), 5);
    }

    private static void hourDitchBounds() {
        MarshDrains m = new MarshDrains();
        m.addField(10, 1);
        m.addField(0, 1);
        m.addDitch(1, 0, 9);
        m.pass(1);
        c.due("hour: no water, no flow", m.water(), 0);
        m.flood(0, 2);
        m.pass(1);
        c.due("hour: no more than there is", m.waterOn(1), 2);
        m.flood(1, 13);
        m.pass(1);
        c.due("hour: half of 5, cut, the way it was laid", m.waterOn(0), 2);
        c.due("hour: what is left", m.waterOn(1), 13);
        m.pass(1);
        c.due("hour: half of 1, cut, is none", m.waterOn(0), 2);
        m.flood(0, 50);
        m.pass(1);
        c.due("hour: no more than it carries", m.waterOn(1), 22);
        c.due("hour: carriedBy counts both ways", m.carriedBy(0), 13);
    }

    private static void hourPumpBounds() {
        MarshDrains m = new MarshDrains();
        m.addField(0, 1);
        m.addField(20, 1);
        m.addPump(0, 1, 4);
        m.flood(0, 6);
        m.pass(1);
        c.due("hour: a pump lifts what it carries", m.waterOn(1), 4);
        m.pass(1);
        c.due("hour: no more than there is", m.waterOn(1), 6);
        c.due("hour: nothing left", m.waterOn(0), 0);
        m.pass(1);
        c.due("hour: never back", m.waterOn(1), 6);
        c.due("hour: carriedBy(0)", m.carriedBy(0), 6);
        c.due("hour: drained() by no pump to the sea", m.drained(), 0);
    }

    private static void hourWetAndRuined() {
        MarshDrains m = threeFields();
        m.addPump(0, -1, 9);
        m.turn(0);
        m.flood(0, 4);
        m.flood(1, 3);
        m.pass(5);
        c.due("hour: wetFor(0) after five", m.wetFor(0), 5);
        c.due("hour: wetFor(1), not wet", m.wetFor(1), 0);
        c.due("hour: isRuined(0) after five", m.isRuined(0), false);
        m.turn(0);
        m.pass(1);
        c.due("hour: wetFor(0), dry at the hour's end", m.wetFor(0), 0);
        m.turn(0);
        m.flood(0, 9);
        m.pass(6);
        c.due("hour: isRuined(0) after six in a row", m.isRuined(0), true);
        m.pass(1);
        c.due("hour: wetFor(0) goes on", m.wetFor(0), 7);
        m.turn(0);
        m.pass(1);
        c.due("hour: wetFor(0) dry", m.wetFor(0), 0);
        c.due("hour: ruined for good", m.isRuined(0), true);
    }
}
