/** Promises 30 to 37: what would be, the mean and the checksum. */
public final class ForecastTest {
    private static final Checks c = new Checks();

    public static void main(String[] args) {
        promise30HoursUntilRuined();
        promise30AtMostHundred();
        promise31LossIn();
        promise32WaterIn();
        promise33BestToTurn();
        promise33BestToShut();
        promise33NoneIsBetter();
        promise34BestToFlood();
        promise34ManyCounts();
        promise34Refused();
        promise35RainBorne();
        promise35NotEvenWithout();
        promises33To35WeighOneDay();
        promise36MeanWater();
        promise37DigestOfNothing();
        promise37Digest();
        promise37DigestAsks12And10();
        nothingIsChanged();
        c.end();
    }

    private static MarshDrains twoFields() {
        MarshDrains m = new MarshDrains();
        m.addField(0, 10);
        m.addField(0, 20);
        return m;
    }

    private static void promise30HoursUntilRuined() {
        MarshDrains m = twoFields();
        c.noSuch("30 hoursUntilRuined(0) without fields", () -> new MarshDrains().hoursUntilRuined(0));
        c.noSuch("30 hoursUntilRuined(-1)", () -> m.hoursUntilRuined(-1));
        c.noSuch("30 hoursUntilRuined(2)", () -> m.hoursUntilRuined(2));
        c.due("30 hoursUntilRuined(0), never", m.hoursUntilRuined(0), -1);
        m.flood(0, 4);
        c.due("30 hoursUntilRuined(0), wet now", m.hoursUntilRuined(0), 6);
        c.due("30 hoursUntilRuined(1), dry", m.hoursUntilRuined(1), -1);
        m.pass(5);
        c.due("30 hoursUntilRuined(0), wet for five", m.hoursUntilRuined(0), 1);
        m.pass(1);
        c.due("30 hoursUntilRuined(0), ruined", m.hoursUntilRuined(0), 0);
        m.addPump(0, -1, 9);
        m.pass(2);
        c.due("30 hoursUntilRuined(0), ruined and dry", m.hoursUntilRuined(0), 0);
        m.setRain(1);
        c.due("30 hoursUntilRuined(1), wet with the fourth rain", m.hoursUntilRuined(1), 9);
        c.due("30 hoursUntilRuined(2), late", Marshes.lateByOneField().hoursUntilRuined(2), 33);
    }

    private static void promise30AtMostHundred() {
        MarshDrains passed = Marshes.lateByFiveFields();
        int ruinedAt = 0;
        while (ruinedAt < 200 && !passed.isRuined(6)) {
            passed.pass(1);
            ruinedAt++;
        }
        c.due("30 the example is later than 101", ruinedAt > 101 && ruinedAt < 200, true);
        MarshDrains asked = Marshes.lateByFiveFields();
        for (int hour = 0; hour <= ruinedAt; hour++) {
            int left = ruinedAt - hour;
            c.due("30 hoursUntilRuined(6), due " + left, asked.hoursUntilRuined(6), left <= 100 ? left : -1);
            asked.pass(1);
        }
    }

    private static void promise31LossIn() {
        MarshDrains m = twoFields();
        c.illegal("31 lossIn(0)", () -> m.lossIn(0));
        c.illegal("31 lossIn(49)", () -> m.lossIn(49));
        c.illegal("31 lossIn(-1)", () -> m.lossIn(-1));
        c.due("31 lossIn(48) of dry fields", m.lossIn(48), 0);
        m.flood(1, 4);
        c.due("31 lossIn(1)", m.lossIn(1), 0);
        c.due("31 lossIn(5)", m.lossIn(5), 0);
        c.due("31 lossIn(6)", m.lossIn(6), 20);
        m.pass(6);
        c.due("31 lossIn(1) with one ruined", m.lossIn(1), 20);
        m.setRain(1);
        c.due("31 lossIn(8) with rain", m.lossIn(8), 20);
        c.due("31 lossIn(9) with rain", m.lossIn(9), 30);
        c.due("31 loss(), nothing is changed", m.loss(), 20);
        c.due("31 lossIn(48) without fields", new MarshDrains().lossIn(48), 0);
        MarshDrains slow = Marshes.lateByFiveFields();
        while (slow.hoursUntilRuined(6) != 49) {
            slow.pass(1);
        }
        c.due("31 lossIn(48), ruined with the 49th", slow.lossIn(48), 0);
        slow.pass(1);
        c.due("31 lossIn(48), ruined with the 48th", slow.lossIn(48), 50);
        c.due("31 lossIn(47), ruined with the 48th", slow.lossIn(47), 0);
    }

    private static void promise32WaterIn() {
        MarshDrains m = twoFields();
        c.noSuch("32 waterIn(-1, 1)", () -> m.waterIn(-1, 1));
        c.noSuch("32 waterIn(2, 1)", () -> m.waterIn(2, 1));
        c.noSuch("32 waterIn(2, 0)", () -> m.waterIn(2, 0));
        c.illegal("32 waterIn(0, 0)", () -> m.waterIn(0, 0));
        c.illegal("32 waterIn(0, 49)", () -> m.waterIn(0, 49));
        m.flood(0, 20);
        m.addDitch(0, 1, 3);
        c.due("32 waterIn(0, 1)", m.waterIn(0, 1), 17);
        c.due("32 waterIn(1, 1)", m.waterIn(1, 1), 3);
        c.due("32 waterIn(1, 3)", m.waterIn(1, 3), 9);
        c.due("32 waterIn(1, 48)", m.waterIn(1, 48), 10);
        m.setRain(2);
        c.due("32 waterIn(0, 48) with rain", m.waterIn(0, 48), 106);
        c.due("32 waterOn(0), nothing is changed", m.waterOn(0), 20);
        c.due("32 hour(), nothing is changed", m.hour(), 0);
    }

    private static void promise33BestToTurn() {
        c.due("33 bestToTurn() without drains", twoFields().bestToTurn(), -1);
        MarshDrains m = twoFields();
        m.addPump(0, -1, 9);
        m.addPump(1, -1, 9);
        m.addPump(1, -1, 9);
        for (int drain = 0; drain < 3; drain++) {
            m.turn(drain);
        }
        c.due("33 bestToTurn() without water", m.bestToTurn(), -1);
        m.flood(0, 20);
        c.due("33 bestToTurn(), the one that helps", m.bestToTurn(), 0);
        m.flood(1, 20);
        c.due("33 bestToTurn(), the dearer field, of the same the smallest number", m.bestToTurn(), 1);
        m.turn(1);
        c.due("33 bestToTurn(), what is left", m.bestToTurn(), 0);
        m.turn(0);
        c.due("33 bestToTurn(), none is left", m.bestToTurn(), -1);
        c.due("33 isOpen(2), nothing is changed", m.isOpen(2), false);
        c.due("33 isOpen(1), nothing is changed", m.isOpen(1), true);
        c.due("33 water(), nothing is changed", m.water(), 40);
    }

    private static void promise33BestToShut() {
        MarshDrains m = twoFields();
        m.addPump(0, -1, 1);
        m.addPump(0, 1, 2);
        m.flood(0, 30);
        c.due("33 lossIn(24) of both", m.lossIn(24), 30);
        c.due("33 bestToTurn(), one had best shut", m.bestToTurn(), 1);
        m.turn(1);
        c.due("33 lossIn(24) of one", m.lossIn(24), 10);
        c.due("33 bestToTurn() then", m.bestToTurn(), -1);
    }

    private static void promise33NoneIsBetter() {
        MarshDrains m = twoFields();
        m.addPump(0, -1, 9);
        m.turn(0);
        m.flood(0, 9);
        m.pass(5);
        c.due("33 bestToTurn() at the last hour", m.bestToTurn(), 0);
        m.pass(1);
        c.due("33 bestToTurn() too late", m.bestToTurn(), -1);
    }

    private static void promise34BestToFlood() {
        c.due("34 bestToFlood(1) without fields", new MarshDrains().bestToFlood(1), -1);
        MarshDrains m = new MarshDrains();
        m.addField(0, 30);
        m.addField(0, 10);
        m.addField(0, 20);
        m.addField(0, 10);
        c.due("34 bestToFlood(50), what is worth least", m.bestToFlood(50), 1);
        m.addPump(2, -1, 7);
        c.due("34 bestToFlood(50), what is drained too late", m.bestToFlood(50), 1);
        c.due("34 bestToFlood(40), what is drained in time", m.bestToFlood(40), 2);
        m.turn(0);
        m.flood(0, 9);
        m.pass(6);
        c.due("34 bestToFlood(50), what is ruined", m.bestToFlood(50), 0);
        c.due("34 waterOn(0), nothing is changed", m.waterOn(0), 9);
        c.due("34 waterOn(1), nothing is changed", m.waterOn(1), 0);
    }

    private static void promise34ManyCounts() {
        MarshDrains m = twoFields();
        m.addField(0, 5);
        c.due("34 bestToFlood(3), none is lost", m.bestToFlood(3), 0);
        c.due("34 bestToFlood(4), the least is lost", m.bestToFlood(4), 2);
        m.flood(1, 9);
        c.due("34 bestToFlood(4), what is lost as it is", m.bestToFlood(4), 1);
    }

    private static void promise34Refused() {
        MarshDrains m = twoFields();
        MarshDrains empty = new MarshDrains();
        c.illegal("34 bestToFlood(0)", () -> m.bestToFlood(0));
        c.illegal("34 bestToFlood(51)", () -> m.bestToFlood(51));
        c.illegal("34 bestToFlood(-1)", () -> m.bestToFlood(-1));
        c.illegal("34 bestToFlood(0) without fields", () -> empty.bestToFlood(0));
        c.illegal("34 bestToFlood(51) without fields", () -> empty.bestToFlood(51));
    }

    private static void promise35RainBorne() {
        c.due("35 rainBorne() without fields", new MarshDrains().rainBorne(), 9);
        c.due("35 rainBorne() without drains", twoFields().rainBorne(), 0);
        for (int carries = 1; carries <= 9; carries++) {
            MarshDrains m = new MarshDrains();
            m.addField(0, 7);
            m.addPump(0, -1, carries);
            m.setRain(9 - carries);
            c.due("35 rainBorne() with a pump of " + carries, m.rainBorne(), carries);
            c.due("35 rain(), nothing is changed", m.rain(), 9 - carries);
            c.due("35 water(), nothing is changed", m.water(), 0);
        }
        MarshDrains worthless = new MarshDrains();
        worthless.addField(0, 0);
        worthless.flood(0, 50);
        c.due("35 rainBorne() of what is worth 0", worthless.rainBorne(), 9);
    }

    private static void promise35NotEvenWithout() {
        MarshDrains m = twoFields();
        m.flood(0, 4);
        m.flood(1, 4);
        c.due("35 rainBorne(), not even without", m.rainBorne(), -1);
        m.addPump(1, -1, 1);
        c.due("35 rainBorne(), not even without, but one", m.rainBorne(), -1);
        m.pass(6);
        c.due("35 rainBorne() with one ruined", m.rainBorne(), 1);
        m.turn(0);
        m.setRain(9);
        m.pass(6);
        c.due("35 rainBorne() with all ruined", m.rainBorne(), 9);
    }

    private static void promises33To35WeighOneDay() {
        MarshDrains m = Marshes.lateByOneField();
        m.pass(7);
        c.due("34 bestToFlood(1), 26 hours left, 25 then", m.bestToFlood(1), 0);
        m.pass(1);
        c.due("33 bestToTurn(), 25 hours left", m.bestToTurn(), -1);
        c.due("34 bestToFlood(1), 25 hours left, 24 then", m.bestToFlood(1), 1);
        c.due("35 rainBorne(), 25 hours left", m.rainBorne(), 0);
        m.pass(1);
        c.due("33 bestToTurn(), 24 hours left", m.bestToTurn(), 0);
        c.due("34 bestToFlood(1), 24 hours left", m.bestToFlood(1), 0);
        c.due("35 rainBorne(), 24 hours left", m.rainBorne(), -1);
    }

    private static void promise36MeanWater() {
        MarshDrains m = new MarshDrains();
        c.due("36 meanWater() without fields", m.meanWater(), 0.0);
        m.addField(20, 1);
        c.due("36 meanWater() of a dry field", m.meanWater(), 0.0);
        m.addField(0, 1);
        m.flood(0, 5);
        c.due("36 meanWater() of two", m.meanWater(), 2.5);
        m.addField(0, 1);
        c.due("36 meanWater() of three", m.meanWater(), 5.0 / 3.0);
        m.setRain(1);
        m.pass(1);
        c.due("36 meanWater() with rain", m.meanWater(), 8.0 / 3.0);
    }

    private static void promise37DigestOfNothing() {
        long d = 2341;
        int[] numbers = {0, 0, 0, 0, 0, 0, 0, 0, -1, -1, 0, -1, -1, 9};
        for (int x : numbers) {
            d = d * 31 + x;
        }
        c.due("37 digest() of nothing", new MarshDrains().digest(), d);
    }

    private static void promise37Digest() {
        MarshDrains m = twoFields();
        m.addField(2, 5);
        m.addDitch(0, 1, 2);
        m.addPump(1, -1, 1);
        m.addPump(2, 0, 3);
        m.turn(1);
        m.setRain(1);
        m.flood(0, 30);
        m.pass(7);
        m.flood(2, 2);
        c.due("37 digest()", m.digest(), digestByAnswers(m));
        m.turn(1);
        c.due("37 digest() with pump 1", m.digest(), digestByAnswers(m));
    }

    /** States in which lossIn(12) is not lossIn(11), or lossIn(13), and bestToFlood(10) not that of 9, or of 11. */
    private static void promise37DigestAsks12And10() {
        MarshDrains late = Marshes.lateByOneField();
        late.pass(20);
        c.due("37 lossIn(13), thirteen hours left", late.lossIn(13), 50);
        c.due("37 digest(), thirteen hours left", late.digest(), digestByAnswers(late));
        late.pass(1);
        c.due("37 lossIn(11), twelve hours left", late.lossIn(11), 0);
        c.due("37 digest(), twelve hours left", late.digest(), digestByAnswers(late));
        MarshDrains nine = new MarshDrains();
        nine.addField(0, 20);
        nine.addField(0, 10);
        nine.addPump(0, -1, 1);
        c.due("37 bestToFlood(9)", nine.bestToFlood(9), 0);
        c.due("37 bestToFlood(10), too much for the pump", nine.bestToFlood(10), 1);
        c.due("37 digest() with a pump of 1", nine.digest(), digestByAnswers(nine));
        MarshDrains ten = new MarshDrains();
        ten.addField(0, 20);
        ten.addField(0, 10);
        ten.addPump(0, -1, 2);
        ten.flood(0, 5);
        c.due("37 bestToFlood(10)", ten.bestToFlood(10), 0);
        c.due("37 bestToFlood(11), too much for the pump", ten.bestToFlood(11), 1);
        c.due("37 digest() with a pump of 2", ten.digest(), digestByAnswers(ten));
    }

    private static long digestByAnswers(MarshDrains m) {
        long d = 2341;
        int[] whole = {m.hour(), m.fields(), m.drains(), m.rain(), m.water(), m.drained(), m.wetFields(), m.loss(),
            m.highest(), m.busiest(), m.lossIn(12), m.bestToTurn(), m.bestToFlood(10), m.rainBorne()};
        for (int x : whole) {
            d = d * 31 + x;
        }
        for (int f = 0; f < m.fields(); f++) {
            int[] numbers = {m.waterOn(f), m.wetFor(f), m.isRuined(f) ? 1 : 0, m.drainsAt(f), m.reaches(f),
                m.hoursUntilRuined(f)};
            for (int x : numbers) {
                d = d * 31 + x;
            }
        }
        for (int drain = 0; drain < m.drains(); drain++) {
            int[] numbers = {m.isOpen(drain) ? 1 : 0, m.carriedBy(drain), m.wouldCarry(drain)};
            for (int x : numbers) {
                d = d * 31 + x;
            }
        }
        return d;
    }

    private static void nothingIsChanged() {
        MarshDrains asked = Marshes.lateByFiveFields();
        MarshDrains left = Marshes.lateByFiveFields();
        for (int hour = 0; hour < 30; hour++) {
            asked.hoursUntilRuined(hour % 7);
            asked.lossIn(48);
            asked.waterIn(hour % 7, 48);
            asked.bestToTurn();
            asked.bestToFlood(50);
            asked.rainBorne();
            asked.digest();
            asked.pass(5);
            left.pass(5);
        }
        c.due("30 to 37 change nothing", asked.digest(), left.digest());
    }
}
