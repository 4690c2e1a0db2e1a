import java.util.List;

/** Each sentence that begins with "Throws": what it refuses, the first of several, and that nothing is changed by it. */
final class RefusedCalls {
    private enum Due { NO_SUCH, ILLEGAL, FULL }

    private interface Call {
        void on(MarshDrains m);
    }

    private interface CallWith {
        void on(MarshDrains m, int number);
    }

    private record Start(String name, Marshes.Maker maker) {
    }

    private static final int LEAST = Integer.MIN_VALUE;
    private static final int MOST = Integer.MAX_VALUE;
    private static final Start EMPTY = new Start("an empty marsh", MarshDrains::new);
    private static final Start THREE = new Start("three fields", Marshes::three);
    private static final Start FULL = new Start("a full marsh", Marshes::full);
    private static final List<Start> ALL = List.of(EMPTY, THREE, FULL);
    private static final List<Start> WITH_FIELDS = List.of(THREE, FULL);

    private final Checks c;
    private final Document doc;

    RefusedCalls(Checks c, Document doc) {
        this.c = c;
        this.doc = doc;
    }

    void test() {
        doc.terms("A method that throws an exception changes nothing.");
        doc.terms("If several exceptions apply, the one that is named first is thrown.");
        addField();
        addDitchWithoutField();
        addDitchWrong();
        addPumpWithoutField();
        addPumpWrong();
        noRoomForDrains();
        setRain();
        flood();
        pass();
        oneField();
        oneDrain();
        lossIn();
        waterIn();
        bestToFlood();
    }

    private void refused(Due due, Start start, String name, Call call) {
        MarshDrains m = start.maker.make();
        MarshDrains untouched = start.maker.make();
        String told = name + " of " + start.name;
        switch (due) {
            case NO_SUCH -> c.noSuch(told, () -> call.on(m));
            case ILLEGAL -> c.illegal(told, () -> call.on(m));
            default -> c.full(told, () -> call.on(m));
        }
        c.due(told + " changes nothing", Answers.difference(Answers.of(m), Answers.of(untouched)), "");
        m.pass(48);
        untouched.pass(48);
        c.due(told + " changes nothing later", Answers.difference(Answers.of(m), Answers.of(untouched)), "");
    }

    /** The call with each of these numbers. */
    private void each(Due due, Start start, String name, int[] numbers, CallWith call) {
        for (int number : numbers) {
            refused(due, start, name + " with " + number, m -> call.on(m, number));
        }
    }

    private static int[] absentFields(Start start) {
        int fields = start.maker.make().fields();
        return new int[] {-1, -2, fields, fields + 1, LEAST, MOST};
    }

    private static int[] absentDrains(Start start) {
        int drains = start.maker.make().drains();
        return new int[] {-1, -2, drains, drains + 1, LEAST, MOST};
    }

    private static int[] notWithin(int least, int most) {
        return new int[] {least - 1, most + 1, -most, LEAST, MOST};
    }

    private void addField() {
        doc.promise(2, "Throws `IllegalArgumentException` if floor is not 0 to 20, or worth is not 0 to 99");
        for (Start start : ALL) {
            each(Due.ILLEGAL, start, "2 addField(.., 50)", notWithin(0, 20), (m, floor) -> m.addField(floor, 50));
            each(Due.ILLEGAL, start, "2 addField(10, ..)", notWithin(0, 99), (m, worth) -> m.addField(10, worth));
            refused(Due.ILLEGAL, start, "2 addField(21, 100)", m -> m.addField(21, 100));
        }
        doc.promise(2, "Throws `IllegalStateException` if there are 10");
        refused(Due.FULL, FULL, "2 addField(0, 0)", m -> m.addField(0, 0));
        refused(Due.FULL, FULL, "2 addField(20, 99)", m -> m.addField(20, 99));
    }

    private void addDitchWithoutField() {
        doc.promise(3, "Throws `IndexOutOfBoundsException` if there is no such field");
        for (Start start : ALL) {
            int[] absent = absentFields(start);
            each(Due.NO_SUCH, start, "3 addDitch(.., 0, 5)", absent, (m, one) -> m.addDitch(one, 0, 5));
            each(Due.NO_SUCH, start, "3 addDitch(0, .., 5)", absent, (m, other) -> m.addDitch(0, other, 5));
            each(Due.NO_SUCH, start, "3 addDitch(.., .., 5)", absent, (m, both) -> m.addDitch(both, both, 5));
            each(Due.NO_SUCH, start, "3 addDitch(.., 0, 0)", absent, (m, one) -> m.addDitch(one, 0, 0));
            each(Due.NO_SUCH, start, "3 addDitch(0, .., 10)", absent, (m, other) -> m.addDitch(0, other, 10));
        }
        refused(Due.NO_SUCH, EMPTY, "3 addDitch(0, 0, 5)", m -> m.addDitch(0, 0, 5));
        refused(Due.NO_SUCH, EMPTY, "3 addDitch(0, 1, 5)", m -> m.addDitch(0, 1, 5));
    }

    private void addDitchWrong() {
        doc.promise(3, "Throws `IllegalArgumentException` if both are the same, or carries is not 1 to 9");
        for (Start start : WITH_FIELDS) {
            int last = start.maker.make().fields() - 1;
            int[] ends = {0, last};
            each(Due.ILLEGAL, start, "3 addDitch(.., .., 5)", ends, (m, both) -> m.addDitch(both, both, 5));
            each(Due.ILLEGAL, start, "3 addDitch(.., .., 10)", ends, (m, both) -> m.addDitch(both, both, 10));
            each(Due.ILLEGAL, start, "3 addDitch(0, last, ..)", notWithin(1, 9), (m, most) -> m.addDitch(0, last, most));
        }
    }

    private void addPumpWithoutField() {
        doc.promise(4, "Throws `IndexOutOfBoundsException` if there is no such field from, or to is neither -1 nor a field");
        for (Start start : ALL) {
            int[] absent = absentFields(start);
            int[] absentTo = {-2, absent[2], absent[3], LEAST, MOST};
            each(Due.NO_SUCH, start, "4 addPump(.., 0, 5)", absent, (m, from) -> m.addPump(from, 0, 5));
            each(Due.NO_SUCH, start, "4 addPump(.., -1, 5)", absent, (m, from) -> m.addPump(from, -1, 5));
            each(Due.NO_SUCH, start, "4 addPump(.., -1, 0)", absent, (m, from) -> m.addPump(from, -1, 0));
            each(Due.NO_SUCH, start, "4 addPump(0, .., 5)", absentTo, (m, to) -> m.addPump(0, to, 5));
            each(Due.NO_SUCH, start, "4 addPump(0, .., 10)", absentTo, (m, to) -> m.addPump(0, to, 10));
            each(Due.NO_SUCH, start, "4 addPump(.., .., 5)", absent, (m, both) -> m.addPump(both, both, 5));
        }
        refused(Due.NO_SUCH, EMPTY, "4 addPump(0, -1, 5)", m -> m.addPump(0, -1, 5));
        refused(Due.NO_SUCH, EMPTY, "4 addPump(0, 0, 5)", m -> m.addPump(0, 0, 5));
    }

    private void addPumpWrong() {
        doc.promise(4, "Throws `IllegalArgumentException` if both are the same, or carries is not 1 to 9");
        for (Start start : WITH_FIELDS) {
            int last = start.maker.make().fields() - 1;
            int[] ends = {0, last};
            int[] wrong = notWithin(1, 9);
            each(Due.ILLEGAL, start, "4 addPump(.., .., 5)", ends, (m, both) -> m.addPump(both, both, 5));
            each(Due.ILLEGAL, start, "4 addPump(.., .., 0)", ends, (m, both) -> m.addPump(both, both, 0));
            each(Due.ILLEGAL, start, "4 addPump(last, 0, ..)", wrong, (m, most) -> m.addPump(last, 0, most));
            each(Due.ILLEGAL, start, "4 addPump(last, -1, ..)", wrong, (m, most) -> m.addPump(last, -1, most));
        }
    }

    private void noRoomForDrains() {
        doc.promise(3, "Throws `IllegalStateException` if there are 16 drains");
        refused(Due.FULL, FULL, "3 addDitch(0, 9, 1)", m -> m.addDitch(0, 9, 1));
        refused(Due.FULL, FULL, "3 addDitch(9, 0, 9)", m -> m.addDitch(9, 0, 9));
        doc.promise(4, "Throws `IllegalStateException` if there are 16 drains");
        refused(Due.FULL, FULL, "4 addPump(0, 9, 1)", m -> m.addPump(0, 9, 1));
        refused(Due.FULL, FULL, "4 addPump(9, -1, 9)", m -> m.addPump(9, -1, 9));
    }

    private void setRain() {
        doc.promise(6, "Throws `IllegalArgumentException` if rain is not 0 to 9");
        for (Start start : ALL) {
            each(Due.ILLEGAL, start, "6 setRain(..)", notWithin(0, 9), MarshDrains::setRain);
        }
    }

    private void flood() {
        doc.promise(7, "Throws `IndexOutOfBoundsException` if there is no such field");
        for (Start start : ALL) {
            each(Due.NO_SUCH, start, "7 flood(.., 1)", absentFields(start), (m, field) -> m.flood(field, 1));
            each(Due.NO_SUCH, start, "7 flood(.., 0)", absentFields(start), (m, field) -> m.flood(field, 0));
            each(Due.NO_SUCH, start, "7 flood(.., 51)", absentFields(start), (m, field) -> m.flood(field, 51));
        }
        refused(Due.NO_SUCH, EMPTY, "7 flood(0, 50)", m -> m.flood(0, 50));
        doc.promise(7, "Throws `IllegalArgumentException` if many is not 1 to 50");
        for (Start start : WITH_FIELDS) {
            int last = start.maker.make().fields() - 1;
            each(Due.ILLEGAL, start, "7 flood(0, ..)", notWithin(1, 50), (m, many) -> m.flood(0, many));
            each(Due.ILLEGAL, start, "7 flood(last, ..)", notWithin(1, 50), (m, many) -> m.flood(last, many));
        }
    }

    private void pass() {
        doc.promise(8, "Throws `IllegalArgumentException` if hours is not 1 to 48");
        for (Start start : ALL) {
            each(Due.ILLEGAL, start, "8 pass(..)", notWithin(1, 48), MarshDrains::pass);
        }
    }

    private void oneField() {
        for (int promise : new int[] {18, 19, 20, 21, 22, 23, 30}) {
            doc.promise(promise, "Throws `IndexOutOfBoundsException` if there is no such field");
        }
        for (Start start : ALL) {
            int[] absent = absentFields(start);
            each(Due.NO_SUCH, start, "18 waterOn(..)", absent, MarshDrains::waterOn);
            each(Due.NO_SUCH, start, "19 levelOf(..)", absent, MarshDrains::levelOf);
            each(Due.NO_SUCH, start, "20 wetFor(..)", absent, MarshDrains::wetFor);
            each(Due.NO_SUCH, start, "21 isRuined(..)", absent, MarshDrains::isRuined);
            each(Due.NO_SUCH, start, "22 drainsAt(..)", absent, MarshDrains::drainsAt);
            each(Due.NO_SUCH, start, "23 reaches(..)", absent, MarshDrains::reaches);
            each(Due.NO_SUCH, start, "30 hoursUntilRuined(..)", absent, MarshDrains::hoursUntilRuined);
        }
    }

    private void oneDrain() {
        for (int promise : new int[] {5, 25, 26, 27, 28}) {
            doc.promise(promise, "Throws `IndexOutOfBoundsException` if there is no such drain");
        }
        for (Start start : ALL) {
            int[] absent = absentDrains(start);
            each(Due.NO_SUCH, start, "5 turn(..)", absent, MarshDrains::turn);
            each(Due.NO_SUCH, start, "25 isPump(..)", absent, MarshDrains::isPump);
            each(Due.NO_SUCH, start, "26 isOpen(..)", absent, MarshDrains::isOpen);
            each(Due.NO_SUCH, start, "27 carriedBy(..)", absent, MarshDrains::carriedBy);
            each(Due.NO_SUCH, start, "28 wouldCarry(..)", absent, MarshDrains::wouldCarry);
        }
    }

    private void lossIn() {
        doc.promise(31, "Throws `IllegalArgumentException` if hours is not 1 to 48");
        for (Start start : ALL) {
            each(Due.ILLEGAL, start, "31 lossIn(..)", notWithin(1, 48), MarshDrains::lossIn);
        }
    }

    private void waterIn() {
        doc.promise(32, "Throws `IndexOutOfBoundsException` if there is no such field");
        for (Start start : ALL) {
            each(Due.NO_SUCH, start, "32 waterIn(.., 1)", absentFields(start), (m, field) -> m.waterIn(field, 1));
            each(Due.NO_SUCH, start, "32 waterIn(.., 0)", absentFields(start), (m, field) -> m.waterIn(field, 0));
            each(Due.NO_SUCH, start, "32 waterIn(.., 49)", absentFields(start), (m, field) -> m.waterIn(field, 49));
        }
        refused(Due.NO_SUCH, EMPTY, "32 waterIn(0, 48)", m -> m.waterIn(0, 48));
        doc.promise(32, "Throws `IllegalArgumentException` if hours is not 1 to 48");
        for (Start start : WITH_FIELDS) {
            int last = start.maker.make().fields() - 1;
            each(Due.ILLEGAL, start, "32 waterIn(0, ..)", notWithin(1, 48), (m, hours) -> m.waterIn(0, hours));
            each(Due.ILLEGAL, start, "32 waterIn(last, ..)", notWithin(1, 48), (m, hours) -> m.waterIn(last, hours));
        }
    }

    private void bestToFlood() {
        doc.promise(34, "Throws `IllegalArgumentException` if many is not 1 to 50");
        for (Start start : ALL) {
            each(Due.ILLEGAL, start, "34 bestToFlood(..)", notWithin(1, 50), MarshDrains::bestToFlood);
        }
    }
}
