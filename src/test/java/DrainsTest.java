/** Promises 25 to 29: what is asked of drains. */
public final class DrainsTest {
    private static final Checks c = new Checks();

    public static void main(String[] args) {
        noSuchDrain(new MarshDrains(), 0);
        noSuchDrain(oneOfEach(), -1);
        noSuchDrain(oneOfEach(), 3);
        noSuchDrain(oneOfEach(), Integer.MAX_VALUE);
        noSuchDrain(oneOfEach(), Integer.MIN_VALUE);
        promises25And26Kinds();
        promise27CarriedBy();
        promise28WouldCarryByDitch();
        promise28WouldCarryByPump();
        promise28WouldCarryAlone();
        promise29Busiest();
        c.end();
    }

    private static MarshDrains oneOfEach() {
        MarshDrains m = new MarshDrains();
        m.addField(6, 10);
        m.addField(0, 20);
        m.addDitch(0, 1, 3);
        m.addPump(1, 0, 2);
        m.addPump(1, -1, 4);
        return m;
    }

    private static void noSuchDrain(MarshDrains m, int drain) {
        c.noSuch("25 isPump(" + drain + ")", () -> m.isPump(drain));
        c.noSuch("26 isOpen(" + drain + ")", () -> m.isOpen(drain));
        c.noSuch("27 carriedBy(" + drain + ")", () -> m.carriedBy(drain));
        c.noSuch("28 wouldCarry(" + drain + ")", () -> m.wouldCarry(drain));
    }

    private static void promises25And26Kinds() {
        MarshDrains m = oneOfEach();
        c.due("25 isPump(0)", m.isPump(0), false);
        c.due("25 isPump(1)", m.isPump(1), true);
        c.due("25 isPump(2) to the sea", m.isPump(2), true);
        c.due("26 isOpen(0)", m.isOpen(0), true);
        c.due("26 isOpen(2)", m.isOpen(2), true);
        m.turn(2);
        c.due("26 isOpen(2) turned", m.isOpen(2), false);
        c.due("26 isOpen(1)", m.isOpen(1), true);
        c.due("25 isPump(2) shut", m.isPump(2), true);
        m.turn(2);
        c.due("26 isOpen(2) turned back", m.isOpen(2), true);
        m.bestToTurn();
        c.due("26 isOpen(0) behind bestToTurn()", m.isOpen(0), true);
        c.due("26 isOpen(2) behind bestToTurn()", m.isOpen(2), true);
    }

    private static void promise27CarriedBy() {
        MarshDrains m = oneOfEach();
        m.flood(0, 10);
        c.due("27 carriedBy(0) at first", m.carriedBy(0), 0);
        m.pass(1);
        c.due("27 carriedBy(0)", m.carriedBy(0), 3);
        c.due("27 carriedBy(1)", m.carriedBy(1), 2);
        c.due("27 carriedBy(2)", m.carriedBy(2), 1);
        m.pass(1);
        c.due("27 carriedBy(0) in all", m.carriedBy(0), 6);
        m.turn(0);
        m.turn(1);
        m.pass(1);
        c.due("27 carriedBy(0) shut", m.carriedBy(0), 6);
        m.turn(2);
        m.turn(0);
        m.flood(1, 30);
        m.pass(1);
        c.due("27 carriedBy(0) the other way", m.carriedBy(0), 9);
        m.lossIn(48);
        c.due("27 carriedBy(0) behind a question", m.carriedBy(0), 9);
    }

    private static void promise28WouldCarryByDitch() {
        MarshDrains m = oneOfEach();
        c.due("28 wouldCarry(0) without water", m.wouldCarry(0), 0);
        m.flood(0, 1);
        c.due("28 wouldCarry(0), no more than there is", m.wouldCarry(0), 1);
        m.flood(0, 9);
        c.due("28 wouldCarry(0), no more than it carries", m.wouldCarry(0), 3);
        m.flood(1, 11);
        c.due("28 wouldCarry(0), half of 5, cut", m.wouldCarry(0), 2);
        m.flood(1, 5);
        c.due("28 wouldCarry(0), as high", m.wouldCarry(0), 0);
        m.flood(1, 3);
        c.due("28 wouldCarry(0) the other way, half of 3, cut", m.wouldCarry(0), 1);
        m.flood(1, 50);
        c.due("28 wouldCarry(0) the other way", m.wouldCarry(0), 3);
        m.turn(0);
        c.due("28 wouldCarry(0) shut", m.wouldCarry(0), 0);
        c.due("28 waterOn(0), nothing is changed", m.waterOn(0), 10);
        c.due("28 carriedBy(0), nothing is changed", m.carriedBy(0), 0);
    }

    private static void promise28WouldCarryByPump() {
        MarshDrains m = oneOfEach();
        m.setRain(9);
        c.due("28 wouldCarry(1) now, before rain", m.wouldCarry(1), 0);
        m.flood(1, 1);
        c.due("28 wouldCarry(1), no more than there is", m.wouldCarry(1), 1);
        m.flood(1, 2);
        c.due("28 wouldCarry(1), no more than it carries", m.wouldCarry(1), 2);
        c.due("28 wouldCarry(2) to the sea", m.wouldCarry(2), 3);
        m.flood(1, 9);
        c.due("28 wouldCarry(2), no more than it carries", m.wouldCarry(2), 4);
        m.turn(2);
        c.due("28 wouldCarry(2) shut", m.wouldCarry(2), 0);
        c.due("28 waterOn(1), nothing is changed", m.waterOn(1), 12);
        c.due("28 drained(), nothing is changed", m.drained(), 0);
    }

    private static void promise28WouldCarryAlone() {
        MarshDrains m = new MarshDrains();
        m.addField(0, 1);
        m.addPump(0, -1, 5);
        m.addPump(0, -1, 5);
        m.flood(0, 6);
        c.due("28 wouldCarry(0) alone", m.wouldCarry(0), 5);
        c.due("28 wouldCarry(1) alone", m.wouldCarry(1), 5);
    }

    private static void promise29Busiest() {
        MarshDrains m = new MarshDrains();
        c.due("29 busiest() without drains", m.busiest(), -1);
        m.addField(0, 1);
        m.addField(0, 1);
        c.due("29 busiest() with fields alone", m.busiest(), -1);
        m.addPump(0, -1, 1);
        c.due("29 busiest(), nothing carried", m.busiest(), 0);
        m.addPump(0, -1, 3);
        m.addPump(1, -1, 3);
        c.due("29 busiest(), nothing carried by three", m.busiest(), 0);
        m.flood(1, 3);
        m.pass(1);
        c.due("29 busiest()", m.busiest(), 2);
        m.flood(0, 4);
        m.pass(1);
        c.due("29 busiest() of the same, the smallest number", m.busiest(), 1);
        m.turn(1);
        c.due("29 busiest() though shut", m.busiest(), 1);
        m.flood(0, 50);
        m.pass(3);
        c.due("29 busiest() of 4 and 3", m.busiest(), 0);
    }
}
