/** Promises 9 to 14: what is told about aircraft, stands, tugs, the field, the log, and why. */
public final class AnswersTest {
    private static final Check check = new Check();

    public static void main(String[] args) {
        aircraft();
        stand();
        tug();
        value();
        event();
        why();
        check.end();
    }

    /** At minute 45: 0 is gone, 1 is pushed back, 2 waits on a stand, 3 is towed, 4 is on a bay, 5 is expected. */
    private static StandTugs busy() {
        StandTugs x = new StandTugs();
        x.begin(3, 2);
        x.setSpan(0, 3);
        x.setStrength(1, 2);
        x.expect(32, 0, 30, 0);
        x.expect(21, 1, 45, 120);
        x.expect(22, 2, 44, 70);
        x.expect(33, 3, 300, 400);
        x.expect(43, 4, 500, 49);
        x.expect(11, 60, 61, 50);
        x.pass(35);
        x.setLeaves(2, 45);
        x.setLeaves(1, 44);
        x.pass(10);
        return x;
    }

    private static void aircraft() {
        StandTugs x = busy();
        int[][] due = {
            {3, 2, 0, 30, 0, 5, -1, 0, 35, 0},
            {2, 1, 1, 44, 120, 4, 1, 0, 44, 0},
            {2, 2, 2, 45, 70, 1, 2, -1, 43, 0},
            {3, 3, 3, 300, 400, 3, 0, -1, 10, 8},
            {4, 3, 4, 500, 49, 2, -1, -1, 0, 1},
            {1, 1, 60, 61, 50, 0, -1, -1, 0, 0},
        };
        for (int i = 0; i < due.length; i++) {
            for (int what = 0; what < 10; what++) {
                check.due("9: aircraft(" + i + ", " + what + ")", x.aircraft(i, what), due[i][what]);
            }
        }
        x.pass(1);
        check.due("9: no longer towed", x.aircraft(3, 5), 1);
        check.due("9: on the stand", x.aircraft(3, 6), 0);
        for (int number : new int[] {-1, 6, 12, Integer.MAX_VALUE, Integer.MIN_VALUE}) {
            check.outside(x, "9: aircraft(" + number + ", 0)", () -> x.aircraft(number, 0));
            check.outside(x, "9: aircraft(" + number + ", 10)", () -> x.aircraft(number, 10));
        }
        for (int what : new int[] {-1, 10, Integer.MAX_VALUE, Integer.MIN_VALUE}) {
            check.illegal(x, "9: aircraft(5, " + what + ")", () -> x.aircraft(5, what));
        }
    }

    private static void stand() {
        StandTugs x = busy();
        int[][] due = {{3, 3, 0, 45}, {2, 1, 1, 44}, {2, 2, 0, 43}};
        for (int i = 0; i < due.length; i++) {
            for (int what = 0; what < 4; what++) {
                check.due("10: stand(" + i + ", " + what + ")", x.stand(i, what), due[i][what]);
            }
        }
        for (int number : new int[] {-1, 3, 6, Integer.MAX_VALUE, Integer.MIN_VALUE}) {
            check.outside(x, "10: stand(" + number + ", 0)", () -> x.stand(number, 0));
            check.outside(x, "10: stand(" + number + ", 4)", () -> x.stand(number, 4));
        }
        for (int what : new int[] {-1, 4, Integer.MAX_VALUE, Integer.MIN_VALUE}) {
            check.illegal(x, "10: stand(2, " + what + ")", () -> x.stand(2, what));
        }
    }

    private static void tug() {
        StandTugs x = busy();
        int[][] due = {{3, 3, 1, 0, 1}, {2, 1, 5, 2, 0}};
        for (int i = 0; i < due.length; i++) {
            for (int what = 0; what < 5; what++) {
                check.due("11: tug(" + i + ", " + what + ")", x.tug(i, what), due[i][what]);
            }
        }
        x.pass(2);
        check.due("11: its minutes left", x.tug(1, 2), 3);
        for (int number : new int[] {-1, 2, 3, Integer.MAX_VALUE, Integer.MIN_VALUE}) {
            check.outside(x, "11: tug(" + number + ", 0)", () -> x.tug(number, 0));
            check.outside(x, "11: tug(" + number + ", 5)", () -> x.tug(number, 5));
        }
        for (int what : new int[] {-1, 5, Integer.MAX_VALUE, Integer.MIN_VALUE}) {
            check.illegal(x, "11: tug(1, " + what + ")", () -> x.tug(1, what));
        }
    }

    private static void value() {
        StandTugs x = busy();
        x.setCurfew(100, 30);
        int[] due = {3, 2, 6, 45, 100, 30, 1, 1, 1, 1, 1, 1, 0, 0, 9, 9};
        for (int what = 0; what < 16; what++) {
            check.due("12: value(" + what + ")", x.value(what), due[what]);
        }
        x.pass(100);
        check.due("12: sum of delays, two of them late", x.value(12), x.aircraft(2, 7) + x.aircraft(5, 7));
        check.due("12: the second one's delay", x.aircraft(2, 7), 4);
        check.due("12: greatest delay", x.value(13), 4);
        for (int what : new int[] {-1, 16, Integer.MAX_VALUE, Integer.MIN_VALUE}) {
            check.illegal(x, "12: value(" + what + ")", () -> x.value(what));
        }
    }

    private static void event() {
        StandTugs x = busy();
        int[][] due = {{3, 44, 1}, {5, 35, 3}, {4, 35, 0}, {3, 30, 0}, {2, 4, 4}, {2, 3, 3}, {1, 2, 2}, {1, 1, 1},
            {1, 0, 0}};
        for (int i = 0; i < due.length; i++) {
            for (int what = 0; what < 3; what++) {
                check.due("13: event(" + i + ", " + what + ")", x.event(i, what), due[i][what]);
            }
        }
        check.outside(x, "13: event(9, 0)", () -> x.event(9, 0));
        check.outside(x, "13: event(9, 3)", () -> x.event(9, 3));
        check.outside(x, "13: event(-1, 0)", () -> x.event(-1, 0));
        check.outside(x, "13: event(min, 0)", () -> x.event(Integer.MIN_VALUE, 0));
        for (int what : new int[] {-1, 3, Integer.MAX_VALUE, Integer.MIN_VALUE}) {
            check.illegal(x, "13: event(8, " + what + ")", () -> x.event(8, what));
        }
        StandTugs y = new StandTugs();
        y.begin(6, 3);
        for (int i = 0; i < 12; i++) {
            y.expect(41, i, 100 + 10 * i, 0);
        }
        y.pass(300);
        check.due("13: 30 are kept", y.value(15), 30);
        check.due("13: the latest of 36", y.event(0, 1), 215);
        check.due("13: the oldest one kept is the seventh", y.event(29, 2), 6);
        check.due("13: an arrival at a bay", y.event(29, 0), 2);
        check.outside(y, "13: event(30, 0)", () -> y.event(30, 0));
        y.undo();
        check.due("13: the log before", y.value(15), 0);
    }

    private static void why() {
        StandTugs x = busy();
        int[] due = {3, 3, 6, 2, 4, 1};
        for (int i = 0; i < due.length; i++) {
            check.due("14: why(" + i + ")", x.why(i), due[i]);
        }
        x.setCurfew(0, 1440);
        check.due("14: too early ahead of the curfew", x.why(4), 4);
        check.due("14: the curfew ahead of a neighbor", x.why(2), 5);
        check.due("14: expected ahead of the curfew", x.why(5), 1);
        check.due("14: gone ahead of the curfew", x.why(0), 3);
        x.setCurfew(0, 0);
        x.setStrength(0, 1);
        check.due("14: a neighbor ahead of the tugs", x.why(2), 6);
        StandTugs y = new StandTugs();
        y.expect(22, 0, 10, 0);
        check.due("14: expected", y.why(0), 1);
        y.pass(9);
        check.due("14: ahead of the minute", y.why(0), 4);
        y.pass(1);
        check.due("14: it would be", y.why(0), 0);
        y.setStrength(0, 1);
        check.due("14: a weak tug", y.why(0), 7);
        y.setLeaves(0, 11);
        check.due("14: too early ahead of the tugs", y.why(0), 4);
        y.setLeaves(0, 10);
        y.setStrength(0, 2);
        y.pass(1);
        check.due("14: pushed back", y.why(0), 3);
        y.pass(5);
        check.due("14: gone", y.why(0), 3);
        StandTugs z = new StandTugs();
        z.begin(1, 1);
        z.expect(21, 0, 10, 0);
        z.expect(21, 0, 500, 0);
        z.pass(16);
        check.due("14: towed", z.why(1), 2);
        z.setLeaves(1, 5);
        check.due("14: towed, though it wants to leave", z.why(1), 2);
        z.pass(9);
        check.due("14: towed as it is now, ahead of step 1", z.why(1), 2);
        z.pass(1);
        check.due("14: pushed back after it", z.why(1), 3);
        for (int number : new int[] {-1, 2, 12, Integer.MAX_VALUE, Integer.MIN_VALUE}) {
            check.outside(z, "14: why(" + number + ")", () -> z.why(number));
        }
    }
}
