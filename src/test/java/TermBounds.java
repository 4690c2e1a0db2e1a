/** Each sentence of the terms: the least and the most that they name, and what lies beside them. */
final class TermBounds {
    private final Checks c;
    private final Document doc;

    TermBounds(Checks c, Document doc) {
        this.c = c;
        this.doc = doc;
    }

    void test() {
        numbersAndTime();
        tenFields();
        floorsAndWorths();
        waterIsNeverLess();
        wetWithFour();
        ruinedWithSix();
        hoursInARow();
        ruinedForGood();
        rain();
        sixteenDrains();
        openAndShut();
        carriesOneToNine();
        whereDrainsLead();
        ditchBothWays();
        ditchHalfCut();
        ditchNoMoreThanItCarries();
        ditchNoMoreThanThereIs();
        pump();
        rainFalls();
        drainsByNumbers();
        drainsByWhatStands();
        countedAtTheEnd();
        hourIsGreater();
        sumsOfAllCalls();
    }

    private void numbersAndTime() {
        doc.terms("All numbers are whole, and / is cut towards 0.");
        MarshDrains m = Marshes.flat(1, 1);
        m.addDitch(0, 1, 9);
        m.flood(0, 3);
        c.due("terms: wouldCarry(0), 3 / 2", m.wouldCarry(0), 1);
        m.flood(1, 6);
        c.due("terms: wouldCarry(0), 3 / 2 the other way", m.wouldCarry(0), 1);
        doc.terms("Time is told in hours, from 0.");
        c.due("terms: hour()", m.hour(), 0);
    }

    private void tenFields() {
        doc.terms("Fields. At most 10, numbered from 0;");
        MarshDrains m = new MarshDrains();
        for (int number = 0; number < 10; number++) {
            c.due("terms: addField", m.addField(0, 0), number);
            c.due("terms: fields()", m.fields(), number + 1);
        }
        c.full("terms: an eleventh field", () -> m.addField(0, 0));
        c.due("terms: fields() at most", m.fields(), 10);
        c.due("terms: waterOn(9)", m.waterOn(9), 0);
        c.noSuch("terms: waterOn(10)", () -> m.waterOn(10));
    }

    private void floorsAndWorths() {
        doc.terms("each has a floor, 0 to 20, a worth, 0 to 99,");
        doc.terms("its water stands as high as floor and water, added.");
        MarshDrains m = new MarshDrains();
        c.due("terms: addField(0, 0)", m.addField(0, 0), 0);
        c.due("terms: addField(20, 99)", m.addField(20, 99), 1);
        c.due("terms: addField(0, 98)", m.addField(0, 98), 2);
        c.due("terms: addField(19, 1)", m.addField(19, 1), 3);
        c.due("terms: levelOf(0), floor 0", m.levelOf(0), 0);
        c.due("terms: levelOf(1), floor 20", m.levelOf(1), 20);
        for (int field = 0; field < 4; field++) {
            m.flood(field, 50);
        }
        c.due("terms: levelOf(0) of 0 and 50", m.levelOf(0), 50);
        c.due("terms: levelOf(1) of 20 and 50", m.levelOf(1), 70);
        c.due("terms: levelOf(3) of 19 and 50", m.levelOf(3), 69);
        m.pass(6);
        c.due("terms: loss() of 0, 99, 98 and 1", m.loss(), 198);
    }

    private void waterIsNeverLess() {
        doc.terms("and water, 0 or more (0, at first);");
        MarshDrains m = new MarshDrains();
        m.addField(20, 1);
        m.addField(0, 1);
        c.due("terms: waterOn(0) at first", m.waterOn(0), 0);
        c.due("terms: waterOn(1) at first", m.waterOn(1), 0);
        m.addPump(0, -1, 9);
        m.addDitch(0, 1, 9);
        m.addPump(1, 0, 9);
        m.pass(3);
        c.due("terms: waterOn(0), nothing to carry", m.waterOn(0), 0);
        c.due("terms: waterOn(1), nothing to carry", m.waterOn(1), 0);
        m.flood(0, 1);
        m.pass(1);
        c.due("terms: waterOn(0), one less than a drain could", m.waterOn(0), 0);
        c.due("terms: drained()", m.drained(), 1);
    }

    private void wetWithFour() {
        doc.terms("A field is wet, if it has 4 of water or more;");
        int[] waters = {1, 3, 4, 5, 50};
        int[] wet = {0, 0, 1, 1, 1};
        for (int i = 0; i < waters.length; i++) {
            MarshDrains m = Marshes.flat(1);
            m.flood(0, waters[i]);
            c.due("terms: wetFields() with " + waters[i], m.wetFields(), wet[i]);
            m.pass(1);
            c.due("terms: wetFor(0) with " + waters[i], m.wetFor(0), wet[i]);
            c.due("terms: hoursUntilRuined(0) with " + waters[i], m.hoursUntilRuined(0), wet[i] == 1 ? 5 : -1);
        }
        MarshDrains high = new MarshDrains();
        high.addField(20, 1);
        c.due("terms: wetFields(), high but without water", high.wetFields(), 0);
    }

    private void ruinedWithSix() {
        doc.terms("with six it is ruined,");
        MarshDrains m = Marshes.flat(7);
        m.flood(0, 4);
        for (int hour = 1; hour <= 8; hour++) {
            c.due("terms: pass(1), the hour " + hour, m.pass(1), hour == 6 ? 1 : 0);
            c.due("terms: isRuined(0) behind " + hour, m.isRuined(0), hour >= 6);
            c.due("terms: wetFor(0) behind " + hour, m.wetFor(0), hour);
        }
    }

    private void hoursInARow() {
        doc.terms("it counts for how many hours in a row it is wet (0, at first);");
        MarshDrains m = Marshes.flat(7);
        m.addPump(0, -1, 1);
        c.due("terms: wetFor(0) at first", m.wetFor(0), 0);
        m.flood(0, 9);
        c.due("terms: wetFor(0), wet but for no hour", m.wetFor(0), 0);
        m.pass(5);
        c.due("terms: wetFor(0) with 4 of water", m.wetFor(0), 5);
        m.pass(1);
        c.due("terms: wetFor(0) with 3 of water", m.wetFor(0), 0);
        m.flood(0, 6);
        m.pass(5);
        c.due("terms: wetFor(0), anew from 1", m.wetFor(0), 5);
        c.due("terms: isRuined(0), ten hours but not in a row", m.isRuined(0), false);
        m.flood(0, 1);
        m.pass(1);
        c.due("terms: isRuined(0), six in a row", m.isRuined(0), true);
    }

    private void ruinedForGood() {
        doc.terms("for good.");
        MarshDrains m = Marshes.flat(7);
        m.flood(0, 4);
        m.pass(6);
        m.addPump(0, -1, 9);
        m.pass(48);
        c.due("terms: waterOn(0), drained", m.waterOn(0), 0);
        c.due("terms: wetFor(0), drained", m.wetFor(0), 0);
        c.due("terms: isRuined(0), for good", m.isRuined(0), true);
        c.due("terms: loss(), for good", m.loss(), 7);
        m.turn(0);
        m.flood(0, 4);
        c.due("terms: pass(6), ruined but once", m.pass(6), 0);
        c.due("terms: loss(), once", m.loss(), 7);
    }

    private void rain() {
        doc.terms("Rain: as much as told, 0 to 9 (0, at first), falls on each field in each hour.");
        MarshDrains m = Marshes.flat(1, 1, 1, 1, 1, 1, 1, 1, 1, 1);
        c.due("terms: rain() at first", m.rain(), 0);
        m.pass(48);
        c.due("terms: water() without rain", m.water(), 0);
        int due = 0;
        for (int rain = 9; rain >= 0; rain--) {
            m.setRain(rain);
            m.pass(3);
            due += 3 * rain;
            for (int field = 0; field < 10; field++) {
                c.due("terms: waterOn(" + field + ") with rain " + rain, m.waterOn(field), due);
            }
        }
    }

    private void sixteenDrains() {
        doc.terms("Drains. At most 16, numbered from 0; each is a ditch or a pump,");
        MarshDrains m = Marshes.flat(1, 1);
        for (int number = 0; number < 16; number++) {
            int got = number < 8 ? m.addDitch(0, 1, 1) : m.addPump(0, 1, 1);
            c.due("terms: a drain's number", got, number);
            c.due("terms: drains()", m.drains(), number + 1);
            c.due("terms: isPump", m.isPump(number), number >= 8);
        }
        c.full("terms: a seventeenth drain, a ditch", () -> m.addDitch(0, 1, 1));
        c.full("terms: a seventeenth drain, a pump", () -> m.addPump(0, 1, 1));
        c.due("terms: drains() at most", m.drains(), 16);
        c.noSuch("terms: isPump(16)", () -> m.isPump(16));
    }

    private void openAndShut() {
        doc.terms("is open (at first) or shut,");
        MarshDrains m = Marshes.flat(1, 1);
        m.addDitch(0, 1, 9);
        m.addPump(0, -1, 9);
        c.due("terms: isOpen(0) at first", m.isOpen(0), true);
        c.due("terms: isOpen(1) at first", m.isOpen(1), true);
        m.turn(0);
        m.turn(1);
        m.flood(0, 50);
        m.pass(1);
        c.due("terms: waterOn(0), both shut", m.waterOn(0), 50);
        m.turn(1);
        m.pass(1);
        c.due("terms: waterOn(0), one shut", m.waterOn(0), 41);
        c.due("terms: waterOn(1), one shut", m.waterOn(1), 0);
    }

    private void carriesOneToNine() {
        doc.terms("carries 1 to 9 in an hour,");
        for (int carries = 1; carries <= 9; carries++) {
            MarshDrains m = Marshes.flat(1, 1, 1, 1);
            m.addDitch(0, 1, carries);
            m.addPump(2, 3, carries);
            m.addPump(3, -1, carries);
            m.flood(0, 50);
            m.flood(2, 50);
            m.pass(1);
            c.due("terms: waterOn(1), carries " + carries, m.waterOn(1), carries);
            c.due("terms: waterOn(2), carries " + carries, m.waterOn(2), 50 - carries);
            c.due("terms: drained(), carries " + carries, m.drained(), carries);
            m.pass(1);
            c.due("terms: waterOn(1) in each hour, carries " + carries, m.waterOn(1), 2 * carries);
        }
    }

    private void whereDrainsLead() {
        doc.terms("and leads from a field to another one; a pump can lead to the sea instead.");
        MarshDrains m = Marshes.flat(1, 1);
        c.illegal("terms: a ditch to its own field", () -> m.addDitch(0, 0, 1));
        c.illegal("terms: a pump to its own field", () -> m.addPump(1, 1, 1));
        c.noSuch("terms: a ditch to the sea", () -> m.addDitch(0, -1, 1));
        c.noSuch("terms: a ditch from the sea", () -> m.addDitch(-1, 0, 1));
        c.noSuch("terms: a pump from the sea", () -> m.addPump(-1, 0, 1));
        c.noSuch("terms: a pump from the sea to the sea", () -> m.addPump(-1, -1, 1));
        c.due("terms: drains()", m.drains(), 0);
        c.due("terms: a pump to the sea", m.addPump(1, -1, 1), 0);
    }

    private void ditchBothWays() {
        doc.terms("An open ditch carries water from that one of its two fields where it stands higher to the other one:");
        for (int higher = 0; higher < 2; higher++) {
            MarshDrains m = Marshes.flat(1, 1);
            m.addDitch(0, 1, 9);
            m.flood(higher, 6);
            c.due("terms: wouldCarry(0) from " + higher, m.wouldCarry(0), 3);
            m.pass(1);
            c.due("terms: waterOn(0) from " + higher, m.waterOn(0), 3);
            c.due("terms: waterOn(1) from " + higher, m.waterOn(1), 3);
            c.due("terms: carriedBy(0) from " + higher, m.carriedBy(0), 3);
        }
    }

    /** What a ditch carries between two fields with that water, laid one way and the other. */
    private void ditch(int floor, int water, int other, int carries, int due) {
        for (int way = 0; way < 2; way++) {
            MarshDrains m = new MarshDrains();
            m.addField(floor, 1);
            m.addField(0, 1);
            m.addDitch(way, 1 - way, carries);
            for (int rest = water; rest > 0; rest -= 50) {
                m.flood(0, Math.min(rest, 50));
            }
            for (int rest = other; rest > 0; rest -= 50) {
                m.flood(1, Math.min(rest, 50));
            }
            String told = "terms: a ditch of " + carries + " from " + floor + " and " + water + " to " + other;
            c.due(told + ", wouldCarry(0)", m.wouldCarry(0), due);
            m.pass(1);
            c.due(told + ", waterOn(0)", m.waterOn(0), water - due);
            c.due(told + ", waterOn(1)", m.waterOn(1), other + due);
            c.due(told + ", carriedBy(0)", m.carriedBy(0), due);
        }
    }

    private void ditchHalfCut() {
        doc.terms("half of by how much it stands higher, cut,");
        int[] halves = {0, 0, 1, 1, 2, 2, 3, 3, 4, 4, 5, 5, 6, 6, 7, 7, 8, 8, 9};
        for (int higher = 0; higher < halves.length; higher++) {
            ditch(0, 20 + higher, 20, 9, halves[higher]);
            ditch(20, 20, 40 - higher, 9, halves[higher]);
        }
    }

    private void ditchNoMoreThanItCarries() {
        doc.terms("but no more than it carries,");
        for (int carries = 1; carries <= 9; carries++) {
            ditch(0, 2 * carries - 1, 0, carries, carries - 1);
            ditch(0, 2 * carries, 0, carries, carries);
            ditch(0, 2 * carries + 2, 0, carries, carries);
            ditch(20, 150, 0, carries, carries);
        }
    }

    private void ditchNoMoreThanThereIs() {
        doc.terms("and than there is.");
        for (int water = 0; water <= 9; water++) {
            ditch(20, water, 0, 9, water);
            // As much as half: the field behind it is left without any.
            ditch(water, water, 0, 9, water);
        }
        ditch(20, 10, 0, 9, 9);
        ditch(20, 0, 20, 9, 0);
        ditch(20, 1, 0, 1, 1);
        ditch(3, 4, 0, 9, 3);
    }

    private void pump() {
        doc.terms("An open pump carries as much as it can out of its first field to the second one,");
        doc.terms("or to the sea: no more than there is.");
        for (int carries = 1; carries <= 9; carries++) {
            for (int water = 0; water <= 11; water++) {
                int due = water < carries ? water : carries;
                for (int to = -1; to <= 1; to += 2) {
                    MarshDrains m = new MarshDrains();
                    m.addField(0, 1);
                    m.addField(20, 1);
                    m.flood(1, 50);
                    m.addPump(0, to, carries);
                    if (water > 0) {
                        m.flood(0, water);
                    }
                    String told = "terms: a pump of " + carries + " from " + water + " to " + to;
                    c.due(told + ", wouldCarry(0)", m.wouldCarry(0), due);
                    m.pass(1);
                    c.due(told + ", waterOn(0)", m.waterOn(0), water - due);
                    c.due(told + ", waterOn(1)", m.waterOn(1), to == 1 ? 50 + due : 50);
                    c.due(told + ", drained()", m.drained(), to == -1 ? due : 0);
                    c.due(told + ", carriedBy(0)", m.carriedBy(0), due);
                }
            }
        }
    }

    private void rainFalls() {
        doc.terms("1. Rain falls.");
        MarshDrains m = Marshes.flat(1, 1);
        m.addPump(0, -1, 4);
        m.setRain(4);
        m.pass(48);
        c.due("terms: waterOn(0), each hour's rain is pumped in it", m.waterOn(0), 0);
        c.due("terms: drained()", m.drained(), 192);
        c.due("terms: wetFor(0), dry at each hour's end", m.wetFor(0), 0);
        c.due("terms: wetFor(1), wet with the first rain", m.wetFor(1), 48);
    }

    private void drainsByNumbers() {
        doc.terms("2. Each drain, by numbers, carries water,");
        MarshDrains along = Marshes.flat(1, 1, 1, 1);
        MarshDrains against = Marshes.flat(1, 1, 1, 1);
        for (int field = 0; field < 3; field++) {
            along.addPump(field, field + 1, 9);
            against.addPump(2 - field, 3 - field, 9);
        }
        along.flood(0, 9);
        against.flood(0, 9);
        along.pass(1);
        c.due("terms: waterOn(3), along the numbers", along.waterOn(3), 9);
        for (int hour = 1; hour <= 3; hour++) {
            against.pass(1);
            c.due("terms: waterOn, against the numbers", against.waterOn(hour), 9);
        }
    }

    private void drainsByWhatStands() {
        doc.terms("by what stands where as it comes to its turn.");
        MarshDrains m = Marshes.flat(1, 1);
        m.addDitch(0, 1, 1);
        m.addDitch(1, 0, 9);
        m.addDitch(0, 1, 9);
        m.flood(0, 8);
        c.due("terms: wouldCarry(1) before", m.wouldCarry(1), 4);
        c.due("terms: wouldCarry(2) before", m.wouldCarry(2), 4);
        m.pass(1);
        c.due("terms: carriedBy(0), of 8 and 0", m.carriedBy(0), 1);
        c.due("terms: carriedBy(1), of 7 and 1", m.carriedBy(1), 3);
        c.due("terms: carriedBy(2), of 4 and 4", m.carriedBy(2), 0);
    }

    private void countedAtTheEnd() {
        doc.terms("3. Each field that is wet counts an hour more, each other one counts 0; with six it is ruined.");
        MarshDrains m = Marshes.flat(1, 1, 1);
        m.addPump(0, 1, 1);
        m.flood(0, 4);
        m.flood(1, 3);
        m.flood(2, 3);
        c.due("terms: wetFields() before", m.wetFields(), 1);
        m.pass(1);
        c.due("terms: wetFor(0), no longer wet at the end", m.wetFor(0), 0);
        c.due("terms: wetFor(1), wet at the end alone", m.wetFor(1), 1);
        c.due("terms: wetFor(2), never wet", m.wetFor(2), 0);
        m.pass(4);
        m.setRain(1);
        c.due("terms: pass(1), the sixth of field 1", m.pass(1), 1);
        c.due("terms: wetFor(0), without water", m.wetFor(0), 0);
        c.due("terms: wetFor(2), wet with the rain", m.wetFor(2), 1);
    }

    private void hourIsGreater() {
        doc.terms("4. The hour is 1 greater.");
        MarshDrains empty = new MarshDrains();
        MarshDrains full = Marshes.full();
        for (int hour = 1; hour <= 3; hour++) {
            empty.pass(1);
            full.pass(1);
            c.due("terms: hour() of an empty marsh", empty.hour(), hour);
            c.due("terms: hour() of a full marsh", full.hour(), 4 + hour);
        }
        empty.pass(48);
        c.due("terms: hour() behind 48 more", empty.hour(), 51);
    }

    /** The most rain, hours and drains that 512 calls can make: 10 + 16 + 1 + 480 calls, and what is asked behind them. */
    private void sumsOfAllCalls() {
        doc.whatItIs("An object is used for at most 512 calls after it has been made;");
        MarshDrains m = new MarshDrains();
        for (int field = 0; field < 10; field++) {
            m.addField(20, 99);
        }
        for (int drain = 0; drain < 16; drain++) {
            m.addPump(0, drain == 15 ? 1 : -1, 9);
        }
        m.setRain(9);
        int hours = 0;
        for (int call = 0; call < 480; call++) {
            m.pass(48);
            hours += 48;
        }
        c.due("terms: hour() at the 508th call", m.hour(), hours);
        c.due("terms: drained() at the 509th call", m.drained(), 9 * hours);
        c.due("terms: water() at the 510th call", m.water(), 81 * hours);
        c.due("terms: waterIn(9, 48) at the 511th call", m.waterIn(9, 48), 9 * hours + 432);
        c.due("terms: wetFor(9) at the 512th call", m.wetFor(9), hours);
    }
}
