/** Promises 1 to 8, and the steps of a minute. */
public final class FieldTest {
    private static final Check check = new Check();

    public static void main(String[] args) {
        newObject();
        begin();
        setSpan();
        setStrength();
        setCurfew();
        expect();
        setLeaves();
        pass();
        arrivals();
        pushbackTimes();
        pushbackOrder();
        pushbackNeighbors();
        pushbackTugs();
        pushbackCurfew();
        pushbackFromBay();
        towing();
        towingLimits();
        check.end();
    }

    private static void newObject() {
        StandTugs x = new StandTugs();
        int[] values = {3, 1, 0, 0, 0, 0, 0, 0, 0, 0, 0, 0, 0, 0, 0, 0};
        for (int what = 0; what < 16; what++) {
            check.due("1: value(" + what + ")", x.value(what), values[what]);
        }
        for (int i = 0; i < 3; i++) {
            check.due("1: span", x.stand(i, 0), 2);
            check.due("1: aircraft of a stand", x.stand(i, 1), StandTugs.NONE);
            check.due("1: minutes of a stand", x.stand(i, 3), 0);
        }
        check.due("1: strength", x.tug(0, 0), 3);
        check.due("1: aircraft of a tug", x.tug(0, 1), StandTugs.NONE);
        check.due("1: length of the text", x.clearText(), 0);
        check.unfit(x, "1: undo()", () -> x.undo());
    }

    private static void begin() {
        StandTugs x = new StandTugs();
        x.setCurfew(7, 9);
        x.setSpan(0, 4);
        x.setStrength(0, 1);
        x.expect(11, 0, 40, 60);
        x.pass(30);
        check.due("2: begin(6, 3)", x.begin(6, 3), 30);
        int[] values = {6, 3, 0, 0, 7, 9, 0, 0, 0, 0, 0, 0, 0, 0, 0, 0};
        for (int what = 0; what < 16; what++) {
            check.due("2: value(" + what + ")", x.value(what), values[what]);
        }
        for (int i = 0; i < 6; i++) {
            check.due("2: span", x.stand(i, 0), 2);
            check.due("2: aircraft of a stand", x.stand(i, 1), StandTugs.NONE);
            check.due("2: minutes of a stand", x.stand(i, 3), 0);
        }
        for (int i = 0; i < 3; i++) {
            check.due("2: strength", x.tug(i, 0), 3);
            check.due("2: aircraft of a tug", x.tug(i, 1), StandTugs.NONE);
        }
        check.outside(x, "2: event(0, 0)", () -> x.event(0, 0));
        check.due("2: begin(1, 1)", x.begin(1, 1), 0);
        check.due("2: stands", x.value(0), 1);
        check.due("2: undo()", x.undo(), 3);
        check.due("2: stands again", x.value(0), 6);
        check.due("2: undo()", x.undo(), 2);
        check.due("2: minute again", x.value(3), 30);
        x.begin(1, 1);
        x.expect(11, 0, 1, 0);
        check.due("2: no minutes of an aircraft before", x.aircraft(0, 8), 0);
        check.due("2: no delay of an aircraft before", x.aircraft(0, 7), StandTugs.NONE);
        x.begin(1, 1);
        x.expect(41, 0, 40, 60);
        x.pass(30);
        x.begin(1, 1);
        x.expect(11, 0, 1, 0);
        check.due("2: no buses of an aircraft before", x.aircraft(0, 9), 0);
        int[][] wrong = {{0, 1}, {7, 1}, {1, 0}, {1, 4}, {-1, -1}, {Integer.MAX_VALUE, 1}, {1, Integer.MIN_VALUE}};
        for (int[] one : wrong) {
            check.illegal(x, "2: begin(" + one[0] + ", " + one[1] + ")", () -> x.begin(one[0], one[1]));
        }
    }

    private static void setSpan() {
        StandTugs x = new StandTugs();
        check.due("3: setSpan(2, 4)", x.setSpan(2, 4), 2);
        check.due("3: setSpan(2, 1)", x.setSpan(2, 1), 4);
        check.due("3: its span", x.stand(2, 0), 1);
        check.due("3: another span", x.stand(1, 0), 2);
        check.due("3: undo()", x.undo(), 1);
        check.due("3: span again", x.stand(2, 0), 4);
        x.expect(21, 0, 100, 0);
        x.pass(1);
        check.due("3: setSpan(0, 1)", x.setSpan(0, 1), 2);
        check.due("3: who has it stays", x.aircraft(0, 6), 0);
        x.pass(3);
        check.due("3: who has it stays on it", x.aircraft(0, 6), 0);
        check.due("3: setSpan(0, 1), the same", x.setSpan(0, 1), 1);
        check.due("3: a call that changes nothing is saved", x.undo(), 3);
        check.outside(x, "3: setSpan(3, 0)", () -> x.setSpan(3, 0));
        check.outside(x, "3: setSpan(-1, 1)", () -> x.setSpan(-1, 1));
        check.outside(x, "3: setSpan(max, 1)", () -> x.setSpan(Integer.MAX_VALUE, 1));
        check.illegal(x, "3: setSpan(0, 0)", () -> x.setSpan(0, 0));
        check.illegal(x, "3: setSpan(2, 5)", () -> x.setSpan(2, 5));
        x.begin(1, 1);
        check.outside(x, "3: setSpan(1, 1) of one stand", () -> x.setSpan(1, 1));
    }

    private static void setStrength() {
        StandTugs x = new StandTugs();
        x.begin(2, 2);
        check.due("4: setStrength(1, 1)", x.setStrength(1, 1), 3);
        check.due("4: setStrength(1, 2)", x.setStrength(1, 2), 1);
        check.due("4: its strength", x.tug(1, 0), 2);
        check.due("4: another one's", x.tug(0, 0), 3);
        check.due("4: undo()", x.undo(), 2);
        check.due("4: strength again", x.tug(1, 0), 1);
        x.expect(23, 0, 1, 0);
        x.pass(2);
        check.due("4: it pushes", x.tug(0, 1), 0);
        x.setStrength(0, 1);
        check.due("4: what it does goes on", x.pass(5), 1);
        check.outside(x, "4: setStrength(2, 0)", () -> x.setStrength(2, 0));
        check.outside(x, "4: setStrength(-1, 1)", () -> x.setStrength(-1, 1));
        check.illegal(x, "4: setStrength(0, 0)", () -> x.setStrength(0, 0));
        check.illegal(x, "4: setStrength(1, 4)", () -> x.setStrength(1, 4));
    }

    private static void setCurfew() {
        StandTugs x = new StandTugs();
        check.due("5: setCurfew(60, 100)", x.setCurfew(60, 100), 40);
        check.due("5: begin", x.value(4), 60);
        check.due("5: end", x.value(5), 100);
        check.due("5: setCurfew(100, 60)", x.setCurfew(100, 60), 0);
        check.due("5: begin as told", x.value(4), 100);
        check.due("5: end as told", x.value(5), 60);
        check.due("5: undo()", x.undo(), 1);
        check.due("5: begin again", x.value(4), 60);
        check.due("5: setCurfew(70, 70)", x.setCurfew(70, 70), 0);
        check.due("5: setCurfew(0, 1440)", x.setCurfew(0, 1440), 1440);
        check.due("5: setCurfew(1440, 0)", x.setCurfew(1440, 0), 0);
        int[][] wrong = {{-1, 5}, {5, -1}, {1441, 5}, {5, 1441}, {Integer.MIN_VALUE, Integer.MAX_VALUE}};
        for (int[] one : wrong) {
            check.illegal(x, "5: setCurfew(" + one[0] + ", " + one[1] + ")", () -> x.setCurfew(one[0], one[1]));
        }
    }

    private static void expect() {
        StandTugs x = new StandTugs();
        check.due("6: the first", x.expect(43, 0, 1999, 400), 0);
        check.due("6: the second", x.expect(11, 1998, 1999, 0), 1);
        int[] first = {4, 3, 0, 1999, 400, 0, -1, -1, 0, 0};
        for (int what = 0; what < 10; what++) {
            check.due("6: aircraft(0, " + what + ")", x.aircraft(0, what), first[what]);
        }
        int[][] wrong = {{10, 0, 1, 0}, {14, 0, 1, 0}, {51, 0, 1, 0}, {1, 0, 1, 0}, {-11, 0, 1, 0}, {20, 0, 1, 0},
            {24, 0, 1, 0}, {44, 0, 1, 0}, {Integer.MIN_VALUE, 0, 1, 0}, {11, -1, 1, 0}, {11, 1999, 2000, 0},
            {11, 5, 5, 0}, {11, 5, 4, 0}, {11, 0, 2000, 0}, {11, 2000, 2001, 0}, {11, 0, 1, -1}, {11, 0, 1, 401},
            {11, Integer.MAX_VALUE, Integer.MIN_VALUE, 0}};
        for (int[] a : wrong) {
            check.illegal(x, "6: expect(" + a[0] + ", " + a[1] + ", " + a[2] + ", " + a[3] + ")",
                    () -> x.expect(a[0], a[1], a[2], a[3]));
        }
        for (int i = 2; i < 12; i++) {
            check.due("6: the next", x.expect(11, i, i + 1, i), i);
        }
        check.unfit(x, "6: a 13th", () -> x.expect(11, 0, 1, 0));
        check.illegal(x, "6: a 13th that is wrong", () -> x.expect(11, 0, 0, 0));
        check.due("6: undo()", x.undo(), 3);
        check.due("6: one fewer", x.value(2), 11);
        check.due("6: it again", x.expect(33, 0, 1, 0), 11);
        x.pass(100);
        StandTugs late = new StandTugs();
        late.pass(50);
        late.expect(21, 3, 40, 0);
        late.pass(1);
        check.due("6: one that should have come comes at once", late.event(1, 1), 50);
        check.due("6: and leaves at once", late.aircraft(0, 7), 10);
    }

    private static void setLeaves() {
        StandTugs x = new StandTugs();
        x.expect(21, 5, 90, 0);
        check.due("7: setLeaves(0, 6)", x.setLeaves(0, 6), 90);
        check.due("7: setLeaves(0, 1999)", x.setLeaves(0, 1999), 6);
        check.due("7: undo()", x.undo(), 2);
        check.due("7: the minute again", x.aircraft(0, 3), 6);
        check.outside(x, "7: setLeaves(1, 0)", () -> x.setLeaves(1, 0));
        check.outside(x, "7: setLeaves(-1, 9)", () -> x.setLeaves(-1, 9));
        check.illegal(x, "7: setLeaves(0, 5)", () -> x.setLeaves(0, 5));
        check.illegal(x, "7: setLeaves(0, -3)", () -> x.setLeaves(0, -3));
        check.illegal(x, "7: setLeaves(0, 2000)", () -> x.setLeaves(0, 2000));
        x.setLeaves(0, 20);
        x.pass(15);
        check.due("7: of one on a stand", x.setLeaves(0, 7), 20);
        x.pass(1);
        check.due("7: it is pushed back later than it wanted", x.aircraft(0, 7), 8);
        check.unfit(x, "7: of one pushed back", () -> x.setLeaves(0, 100));
        check.illegal(x, "7: of one pushed back, out of range", () -> x.setLeaves(0, 5));
        x.pass(5);
        check.due("7: gone", x.aircraft(0, 5), 5);
        check.unfit(x, "7: of one gone", () -> x.setLeaves(0, 100));
        StandTugs y = towed();
        check.due("7: of one towed", y.setLeaves(1, 20), 500);
        y.pass(10);
        check.due("7: its delay", y.aircraft(1, 7), 5);
        y.pass(5);
        check.due("7: pushed back after the tow", y.event(0, 0), 4);
    }

    /** One stand; aircraft 1 is being towed to it, since minute 15. */
    private static StandTugs towed() {
        StandTugs x = new StandTugs();
        x.begin(1, 1);
        x.expect(21, 0, 10, 0);
        x.expect(21, 1, 500, 60);
        x.pass(16);
        check.due("towed: it is", x.aircraft(1, 5), 3);
        x.pass(14);
        check.due("towed: it is on the stand", x.aircraft(1, 5), 1);
        x.undo();
        return x;
    }

    private static void pass() {
        StandTugs x = new StandTugs();
        x.expect(21, 0, 10, 0);
        x.expect(21, 0, 10, 0);
        x.expect(21, 0, 12, 0);
        check.due("8: nobody yet", x.pass(15), 0);
        check.due("8: the first one", x.pass(1), 1);
        check.due("8: the minute", x.value(3), 16);
        check.due("8: the others", x.pass(500), 2);
        check.due("8: undo()", x.undo(), 3);
        check.due("8: the minute again", x.value(3), 16);
        check.due("8: gone again", x.value(11), 1);
        int[] wrong = {0, -1, 501, Integer.MAX_VALUE, Integer.MIN_VALUE};
        for (int minutes : wrong) {
            check.illegal(x, "8: pass(" + minutes + ")", () -> x.pass(minutes));
        }
        for (int i = 0; i < 19; i++) {
            x.pass(500);
        }
        x.pass(483);
        check.due("8: the minute", x.value(3), 9999);
        check.unfit(x, "8: pass(2) to 10001", () -> x.pass(2));
        check.illegal(x, "8: pass(501) to 10500", () -> x.pass(501));
        check.due("8: pass(1) to 10000", x.pass(1), 0);
        check.unfit(x, "8: pass(1) to 10001", () -> x.pass(1));
    }

    private static void arrivals() {
        StandTugs x = new StandTugs();
        x.begin(4, 1);
        x.setSpan(0, 4);
        x.setSpan(1, 3);
        x.setSpan(3, 3);
        x.expect(31, 1, 1000, 51);
        x.expect(11, 1, 1000, 51);
        x.expect(31, 0, 1000, 51);
        x.expect(31, 1, 1000, 51);
        x.expect(31, 1, 1000, 51);
        x.expect(31, 1, 1000, 0);
        x.expect(31, 1, 1000, 50);
        x.expect(31, 1, 1000, 400);
        x.pass(1);
        check.due("step 2: only the one that comes", x.value(7), 1);
        check.due("step 2: the lowest of the smallest", x.aircraft(2, 6), 1);
        x.pass(1);
        int[] stands = {3, 2, 1, 0, -1, -1, -1, -1};
        int[] buses = {0, 0, 0, 0, 2, 0, 1, 8};
        for (int i = 0; i < 8; i++) {
            check.due("step 2: stand of " + i, x.aircraft(i, 6), stands[i]);
            check.due("step 2: place of " + i, x.aircraft(i, 5), stands[i] < 0 ? 2 : 1);
            check.due("step 2: buses of " + i, x.aircraft(i, 9), buses[i]);
        }
        check.due("step 2: all buses", x.value(14), 11);
        int[][] events = {{2, 1, 7}, {2, 1, 6}, {2, 1, 5}, {2, 1, 4}, {1, 1, 3}, {1, 1, 1}, {1, 1, 0}, {1, 0, 2}};
        events(x, "step 2", events);
    }

    private static void events(StandTugs x, String where, int[][] events) {
        check.due(where + ": events", x.value(15), events.length);
        for (int i = 0; i < events.length && i < x.value(15); i++) {
            for (int what = 0; what < 3; what++) {
                check.due(where + ": event(" + i + ", " + what + ")", x.event(i, what), events[i][what]);
            }
        }
    }

    private static void pushbackTimes() {
        StandTugs x = new StandTugs();
        x.expect(21, 2, 4, 99);
        x.pass(4);
        check.due("step 3: not before it wants", x.aircraft(0, 5), 1);
        x.pass(1);
        check.due("step 3: when it wants", x.aircraft(0, 5), 4);
        check.due("step 3: its stand still", x.aircraft(0, 6), 0);
        check.due("step 3: the stand is had", x.stand(0, 1), 0);
        check.due("step 3: the stand's pushback", x.stand(0, 2), 1);
        check.due("step 3: the tug", x.tug(0, 1), 0);
        check.due("step 3: 5 minutes left", x.tug(0, 2), 5);
        check.due("step 3: pushed so far", x.tug(0, 3), 1);
        check.due("step 3: no delay", x.aircraft(0, 7), 0);
        x.pass(4);
        check.due("step 1: 1 minute left", x.tug(0, 2), 1);
        check.due("step 1: still pushed", x.aircraft(0, 5), 4);
        check.due("step 1: gone in the minute t + 5", x.pass(1), 1);
        check.due("step 1: gone", x.aircraft(0, 5), 5);
        check.due("step 1: no stand", x.aircraft(0, 6), StandTugs.NONE);
        check.due("step 1: the stand is free", x.stand(0, 1), StandTugs.NONE);
        check.due("step 1: the tug is free", x.tug(0, 1), StandTugs.NONE);
        check.due("step 1: no minutes left", x.tug(0, 2), 0);
        check.due("step 5: minutes of the aircraft", x.aircraft(0, 8), 7);
        check.due("step 5: minutes of the stand", x.stand(0, 3), 7);
        check.due("step 3: no buses from a stand", x.aircraft(0, 9), 0);
        events(x, "steps", new int[][] {{4, 9, 0}, {3, 4, 0}, {1, 2, 0}});
        StandTugs y = new StandTugs();
        y.begin(1, 1);
        y.expect(21, 0, 4, 0);
        y.expect(21, 9, 20, 0);
        y.pass(10);
        check.due("step 2: a stand is free in the minute t + 5", y.aircraft(1, 6), 0);
        check.due("step 2: and had in it at once", y.stand(0, 3), 10);
    }

    private static void pushbackOrder() {
        StandTugs x = new StandTugs();
        x.begin(6, 1);
        x.expect(21, 0, 30, 0);
        x.expect(21, 0, 20, 0);
        x.expect(21, 0, 20, 0);
        x.setCurfew(0, 40);
        x.pass(200);
        check.due("step 3: ascending minutes of leaving", x.aircraft(1, 7), 20);
        check.due("step 3: equal ones by numbers", x.aircraft(2, 7), 25);
        check.due("step 3: the last one", x.aircraft(0, 7), 20);
        check.due("12: sum of all delays", x.value(12), 65);
        check.due("12: greatest delay", x.value(13), 25);
    }

    private static void pushbackNeighbors() {
        StandTugs x = new StandTugs();
        x.begin(4, 3);
        for (int i = 0; i < 4; i++) {
            x.expect(21, 0, 10, 0);
        }
        x.pass(11);
        int[] at10 = {4, 1, 4, 1};
        for (int i = 0; i < 4; i++) {
            check.due("step 3: neighbors, " + i, x.aircraft(i, 5), at10[i]);
        }
        check.due("14: a neighbor", x.why(1), 6);
        check.due("14: one neighbor is enough", x.why(3), 6);
        x.pass(5);
        int[] at15 = {5, 4, 5, 4};
        int[] delays = {0, 5, 0, 5};
        for (int i = 0; i < 4; i++) {
            check.due("step 3: after the neighbors, " + i, x.aircraft(i, 5), at15[i]);
            check.due("step 3: delays, " + i, x.aircraft(i, 7), delays[i]);
        }
        StandTugs y = new StandTugs();
        y.begin(2, 3);
        y.setSpan(1, 1);
        for (int i = 0; i < 3; i++) {
            y.expect(21, 0, 10, 0);
        }
        y.pass(11);
        check.due("step 3: a bay has no neighbors", y.value(10), 3);
    }

    private static void pushbackTugs() {
        StandTugs x = new StandTugs();
        x.begin(5, 3);
        x.setStrength(1, 1);
        x.setStrength(2, 1);
        x.setSpan(1, 1);
        x.setSpan(3, 1);
        x.expect(21, 0, 10, 0);
        x.expect(23, 0, 11, 0);
        x.expect(22, 0, 12, 0);
        x.pass(11);
        check.due("step 3: the least strength, the lowest one", x.tug(1, 1), 0);
        x.pass(2);
        check.due("step 3: a strong one", x.tug(0, 1), 1);
        check.due("step 3: a weak one does not do", x.tug(2, 1), StandTugs.NONE);
        check.due("14: no tug", x.why(2), 7);
        x.pass(4);
        check.due("step 3: it waits for the strong one", x.aircraft(2, 7), 4);
        check.due("step 3: the strong one again", x.tug(0, 3), 2);
        StandTugs y = new StandTugs();
        y.begin(3, 2);
        y.setStrength(0, 2);
        y.setStrength(1, 2);
        y.setSpan(1, 1);
        y.expect(21, 0, 10, 0);
        y.expect(21, 0, 10, 0);
        y.pass(11);
        check.due("step 3: of equal ones the lowest", y.tug(0, 1), 0);
        check.due("step 3: then the next", y.tug(1, 1), 1);
        StandTugs z = new StandTugs();
        z.setSpan(1, 1);
        z.setStrength(0, 2);
        z.expect(23, 0, 10, 0);
        z.expect(22, 0, 12, 0);
        z.pass(13);
        check.due("step 3: one that cannot go does not hold up others", z.aircraft(1, 5), 4);
        check.due("step 3: it waits", z.aircraft(0, 5), 1);
    }

    private static void pushbackCurfew() {
        StandTugs x = new StandTugs();
        x.setSpan(1, 1);
        x.setCurfew(10, 13);
        x.expect(21, 0, 9, 0);
        x.expect(21, 0, 10, 0);
        x.pass(13);
        check.due("step 3: what has begun goes on", x.aircraft(0, 5), 4);
        check.due("14: at the curfew's end", x.why(1), 7);
        x.pass(2);
        check.due("step 3: one tug, then", x.aircraft(1, 7), 4);
        StandTugs y = new StandTugs();
        y.setCurfew(10, 13);
        y.expect(21, 0, 10, 0);
        y.pass(12);
        check.due("14: the last minute of the curfew", y.why(0), 5);
        y.pass(1);
        check.due("14: the minute after it", y.why(0), 0);
        y.pass(1);
        check.due("step 3: in the minute after it", y.aircraft(0, 7), 3);
        StandTugs z = new StandTugs();
        z.setCurfew(0, 100);
        z.expect(21, 1400, 1440, 0);
        for (int i = 0; i < 3; i++) {
            z.pass(500);
        }
        check.due("14: the next day's curfew", z.why(0), 5);
        z.pass(41);
        check.due("step 3: after the next day's curfew", z.aircraft(0, 7), 100);
        StandTugs w = new StandTugs();
        w.setCurfew(20, 5);
        w.expect(21, 0, 2, 0);
        w.expect(21, 0, 25, 0);
        w.pass(30);
        check.due("step 3: no curfew over midnight", w.value(12), 0);
    }

    private static void pushbackFromBay() {
        StandTugs x = new StandTugs();
        x.expect(41, 0, 20, 101);
        x.pass(20);
        check.due("step 2: 3 buses", x.aircraft(0, 9), 3);
        x.pass(1);
        check.due("step 3: 3 buses once more", x.aircraft(0, 9), 6);
        check.due("step 3: from a bay", x.aircraft(0, 6), StandTugs.NONE);
        check.due("step 3: pushed", x.aircraft(0, 5), 4);
        x.pass(5);
        check.due("step 5: it had no stand", x.aircraft(0, 8), 0);
        check.due("9: all buses", x.value(14), 6);
        events(x, "bay", new int[][] {{4, 25, 0}, {3, 20, 0}, {2, 0, 0}});
    }

    private static void towing() {
        StandTugs x = new StandTugs();
        x.begin(1, 1);
        x.expect(21, 0, 10, 0);
        x.expect(21, 1, 500, 60);
        x.pass(15);
        check.due("step 4: on a bay", x.aircraft(1, 5), 2);
        x.pass(1);
        check.due("step 4: towed in the minute in which the stand gets free", x.aircraft(1, 5), 3);
        check.due("step 4: its stand", x.aircraft(1, 6), 0);
        check.due("step 4: the stand's aircraft", x.stand(0, 1), 1);
        check.due("step 4: no pushback", x.stand(0, 2), 0);
        check.due("step 4: 10 minutes", x.tug(0, 2), 10);
        check.due("step 4: towed so far", x.tug(0, 4), 1);
        check.due("step 4: pushed so far", x.tug(0, 3), 1);
        check.due("step 5: towed counts", x.aircraft(1, 8), 1);
        x.expect(21, 16, 18, 0);
        x.pass(9);
        check.due("step 4: still towed", x.aircraft(1, 5), 3);
        check.due("step 2: a stand that is towed to is not free", x.aircraft(2, 5), 2);
        x.pass(1);
        check.due("step 4: on the stand", x.aircraft(1, 5), 1);
        check.due("step 4: it keeps its stand", x.aircraft(1, 6), 0);
        check.due("step 4: buses only once", x.aircraft(1, 9), 2);
        check.due("step 3: the tug was busy", x.aircraft(2, 7), 7);
        check.due("step 5: minutes of the aircraft", x.aircraft(1, 8), 11);
        check.due("step 5: minutes of the stand", x.stand(0, 3), 26);
        events(x, "step 4", new int[][] {{3, 25, 2}, {6, 25, 1}, {2, 16, 2}, {5, 15, 1}, {4, 15, 0}, {3, 10, 0},
            {2, 1, 1}, {1, 0, 0}});
    }

    private static void towingLimits() {
        for (int leaves = 45; leaves <= 46; leaves++) {
            StandTugs x = new StandTugs();
            x.begin(1, 1);
            x.expect(21, 0, 10, 0);
            x.expect(21, 1, leaves, 60);
            x.pass(16);
            check.due("step 4: one that leaves at " + leaves, x.aircraft(1, 5), leaves == 46 ? 3 : 2);
        }
        StandTugs y = new StandTugs();
        y.begin(2, 2);
        y.setSpan(0, 1);
        y.setSpan(1, 1);
        y.setStrength(1, 1);
        y.expect(32, 0, 900, 0);
        y.expect(21, 0, 800, 0);
        y.expect(11, 0, 700, 0);
        y.expect(11, 0, 600, 0);
        y.expect(11, 0, 700, 0);
        y.pass(5);
        check.due("step 4: no stands", y.value(8), 3);
        y.setSpan(0, 4);
        y.setCurfew(0, 1440);
        check.due("step 4: a stand that is had", y.pass(1), 0);
        check.due("step 4: nobody towed", y.value(9), 0);
        StandTugs z = new StandTugs();
        z.begin(3, 2);
        z.setStrength(0, 1);
        z.setStrength(1, 1);
        z.setSpan(0, 1);
        z.setSpan(1, 1);
        z.setSpan(2, 1);
        z.setCurfew(0, 1440);
        z.expect(42, 0, 900, 0);
        z.expect(31, 0, 800, 0);
        z.expect(21, 0, 700, 0);
        z.pass(3);
        z.setSpan(0, 4);
        z.setSpan(1, 3);
        z.setSpan(2, 3);
        z.pass(1);
        check.due("step 4: too heavy for the tugs", z.aircraft(0, 5), 2);
        check.due("step 4: in ascending order, in the curfew too", z.aircraft(1, 6), 1);
        check.due("step 4: the next one", z.aircraft(2, 6), 2);
        check.due("step 4: by the lowest tug", z.tug(0, 1), 1);
        check.due("step 4: by the next tug", z.tug(1, 1), 2);
        StandTugs w = new StandTugs();
        w.begin(2, 2);
        w.setSpan(1, 1);
        w.expect(21, 0, 10, 0);
        w.expect(21, 0, 90, 0);
        w.pass(9);
        w.setSpan(1, 2);
        w.pass(1);
        check.due("step 4: towed ahead of the pushback", w.aircraft(1, 5), 3);
        w.pass(1);
        check.due("step 3: one that is towed there is no pushback", w.aircraft(0, 5), 4);
        w.pass(9);
        check.due("steps 1: both have ended", w.value(7), 1);
        StandTugs v = new StandTugs();
        v.begin(2, 2);
        v.setSpan(1, 1);
        v.expect(21, 0, 10, 0);
        v.expect(21, 0, 90, 0);
        v.pass(11);
        v.setSpan(1, 2);
        v.pass(1);
        check.due("step 4: neighbors do not matter", v.aircraft(1, 5), 3);
    }
}
