/** The two pieces of code in README.md answer what it says behind them. */
public final class ReadmeTest {
    public static void main(String[] args) {
        Check check = new Check();
        fieldOfThreeAircraft(check);
        timetableOfTwoAircraft(check);
        check.end();
    }

    private static void fieldOfThreeAircraft(Check check) {
        StandTugs field = new StandTugs();
        check.due("setSpan(2, 4)", field.setSpan(2, 4), 2);
        check.due("setCurfew(15, 30)", field.setCurfew(15, 30), 15);
        check.due("expect(22, 0, 20, 120)", field.expect(22, 0, 20, 120), 0);
        check.due("expect(31, 5, 60, 75)", field.expect(31, 5, 60, 75), 1);
        check.due("expect(43, 6, 90, 260)", field.expect(43, 6, 90, 260), 2);

        check.due("minutesToAll()", field.minutesToAll(), 96);
        check.due("delayOf(0)", field.delayOf(0), 10);
        check.due("bestStand()", field.bestStand(), 0);

        check.due("pass(25)", field.pass(25), 0);
        check.due("why(0)", field.why(0), 5);
        check.due("aircraft(1, 6)", field.aircraft(1, 6), 2);
        check.due("aircraft(2, 5)", field.aircraft(2, 5), 2);
        check.due("value(14)", field.value(14), 6);
        check.due("used()", field.used(), 0.6);

        check.due("pass(75)", field.pass(75), 3);
        check.due("event(0, 1)", field.event(0, 1), 95);
        check.due("undo()", field.undo(), 3);
        check.due("value(3)", field.value(3), 25);
    }

    private static void timetableOfTwoAircraft(Check check) {
        StandTugs field = new StandTugs();
        String timetable = "220,20p120;315,60;";
        for (int i = 0; i < timetable.length(); i++) {
            field.append(timetable.charAt(i));
        }
        check.due("parse()", field.parse(), 2);
        check.due("aircraft(1, 4)", field.aircraft(1, 4), 100);
        check.due("append('2')", field.append('2'), 19);
        check.due("append('4')", field.append('4'), 20);
        check.due("parse() with an error", field.parse(), -29);
        check.due("value(2)", field.value(2), 2);
    }
}
