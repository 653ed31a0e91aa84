/** The document's terms "A minute", "delay" and "Log", a sentence each; every label tells its sentence. */
public final class TermsMinuteTest {
    private static final Check check = new Check();
    private static final int NONE = StandTugs.NONE;

    public static void main(String[] args) {
        minutesFromZero();
        tugsInAscendingOrder();
        fiveMinutesOfPushing();
        tenMinutesOfTowing();
        tugIsFreeAtOnce();
        towedIsOnTheStand();
        arrivalWhenItComes();
        arrivalsInAscendingOrder();
        arrivalAtTheSmallestSpan();
        arrivalAtABay();
        busesThatAreBegun();
        pushbackWhenItLeaves();
        pushbacksInOrder();
        pushbackNextToPushback();
        pushbackSinceThisMinute();
        pushbackNextToTow();
        bayHasNoNeighbors();
        pushbackByTheLeastTug();
        pushbackWithoutATug();
        busesOnceMore();
        towAfterMoreThan30();
        towsInAscendingOrder();
        towToTheSmallestSpan();
        towByTheLeastTug();
        towInCurfewAndNextToPushback();
        towAfterPushbacks();
        minutesAreCounted();
        delayOfAPushback();
        sixEvents();
        latest30Events();
        sixtyEvents();
        check.end();
    }

    private static void eventIs(String label, StandTugs x, int index, int kind, int minute, int aircraft) {
        check.due(label + ", event", x.event(index, 0), kind);
        check.due(label + ", its minute", x.event(index, 1), minute);
        check.due(label + ", its aircraft", x.event(index, 2), aircraft);
    }

    private static void minutesFromZero() {
        StandTugs x = new StandTugs();
        check.due("the minutes are counted from 0", x.value(3), 0);
        x.expect(11, 0, 9, 0);
        x.pass(1);
        check.due("then the minute is the next one", x.value(3), 1);
        eventIs("the first minute is 0", x, 0, 1, 0, 0);
    }

    /** Stands 0 and 2 of span 2 alone, so that neither is a neighbor; the weak tug is the one that the light one takes. */
    private static StandTugs twoAtOnce() {
        StandTugs x = new StandTugs();
        x.begin(3, 2);
        x.setSpan(1, 1);
        x.setStrength(1, 1);
        x.expect(21, 0, 10, 0);
        x.expect(22, 0, 10, 0);
        return x;
    }

    private static void tugsInAscendingOrder() {
        StandTugs x = twoAtOnce();
        x.pass(11);
        check.due("the light one by tug 1", x.tug(1, 1), 0);
        check.due("the heavy one by tug 0", x.tug(0, 1), 1);
        check.due("both are gone in one minute", x.pass(5), 2);
        eventIs("tugs in ascending order, the first", x, 1, 4, 15, 1);
        eventIs("tugs in ascending order, the second", x, 0, 4, 15, 0);
    }

    private static void fiveMinutesOfPushing() {
        StandTugs x = new StandTugs();
        x.expect(21, 0, 7, 0);
        Scenes.passTo(x, 7);
        check.due("no minutes left before it", x.tug(0, 2), 0);
        for (int left = 5; left >= 1; left--) {
            check.due("nobody is gone yet", x.pass(1), 0);
            check.due("its minutes left fall by 1", x.tug(0, 2), left);
            check.due("it pushes", x.tug(0, 1), 0);
            check.due("it is pushed", x.aircraft(0, 5), 4);
            check.due("from its stand", x.aircraft(0, 6), 0);
        }
        check.due("one that it pushed back is gone in the minute t + 5", x.pass(1), 1);
        check.due("it is free", x.tug(0, 1), NONE);
        check.due("0 minutes left", x.tug(0, 2), 0);
        check.due("gone", x.aircraft(0, 5), 5);
        check.due("without a stand", x.aircraft(0, 6), NONE);
        check.due("nobody on the stand", x.stand(0, 1), NONE);
        eventIs("gone", x, 0, 4, 12, 0);
    }

    /** One stand, had by 0 until minute 15, in which the tow of 1 begins. */
    private static StandTugs oneTow(int tugs, int kind, int leaves) {
        StandTugs x = new StandTugs();
        x.begin(1, tugs);
        x.expect(21, 0, 10, 0);
        x.expect(kind, 1, leaves, 50);
        return x;
    }

    private static void tenMinutesOfTowing() {
        StandTugs x = oneTow(1, 21, 500);
        Scenes.passTo(x, 15);
        for (int left = 10; left >= 1; left--) {
            x.pass(1);
            check.due("a tow's minutes left fall by 1", x.tug(0, 2), left);
            check.due("it tows", x.tug(0, 1), 1);
            check.due("it is towed", x.aircraft(1, 5), 3);
            check.due("to this stand", x.aircraft(1, 6), 0);
        }
        x.pass(1);
        check.due("one that it towed is on the stand in the minute t + 10", x.aircraft(1, 5), 1);
        check.due("on this stand", x.aircraft(1, 6), 0);
        check.due("the tug is free", x.tug(0, 1), NONE);
        eventIs("the tow ends", x, 0, 6, 25, 1);
        eventIs("the tow begins", x, 1, 5, 15, 1);
    }

    private static void tugIsFreeAtOnce() {
        StandTugs x = new StandTugs();
        x.setSpan(1, 1);
        x.expect(21, 0, 10, 0);
        x.expect(21, 0, 11, 0);
        Scenes.passTo(x, 16);
        check.due("a tug that is free in the minute t + 5 pushes in it", x.tug(0, 1), 1);
        check.due("for 5 minutes again", x.tug(0, 2), 5);
        check.due("so the other one waits", x.aircraft(1, 7), 4);
    }

    private static void towedIsOnTheStand() {
        StandTugs x = oneTow(1, 21, 500);
        Scenes.passTo(x, 16);
        x.setLeaves(1, 20);
        Scenes.passTo(x, 25);
        check.due("one that is towed is not pushed back", x.aircraft(1, 5), 3);
        x.pass(1);
        check.due("on the stand ahead of the pushbacks of the minute", x.aircraft(1, 7), 5);
        eventIs("the tow has ended", x, 1, 6, 25, 1);
        eventIs("its pushback begins", x, 0, 3, 25, 1);
        check.due("from the stand", x.stand(0, 2), 1);
    }

    private static void arrivalWhenItComes() {
        StandTugs x = new StandTugs();
        x.expect(21, 3, 900, 0);
        x.pass(3);
        check.due("in the minute before, it is expected", x.aircraft(0, 5), 0);
        x.pass(1);
        check.due("in its minute of coming, it is there", x.aircraft(0, 5), 1);
        eventIs("it comes", x, 0, 1, 3, 0);
        x.pass(50);
        x.expect(21, 3, 900, 0);
        x.expect(21, 53, 900, 0);
        x.expect(21, 54, 900, 0);
        x.expect(21, 55, 900, 0);
        x.pass(1);
        check.due("minute of coming at most t, long before", x.aircraft(1, 5), 1);
        check.due("minute of coming at most t, just before", x.aircraft(2, 5), 1);
        check.due("minute of coming at most t, equal", x.aircraft(3, 5), 2);
        check.due("minute of coming at most t, greater", x.aircraft(4, 5), 0);
        eventIs("told late, it comes late", x, 2, 1, 54, 1);
        StandTugs y = new StandTugs();
        y.expect(21, 1998, 1999, 0);
        Scenes.passTo(y, 1998);
        check.due("the greatest minute of coming, before", y.value(6), 1);
        y.pass(1);
        check.due("the greatest minute of coming", y.value(7), 1);
    }

    private static void arrivalsInAscendingOrder() {
        StandTugs x = new StandTugs();
        x.pass(50);
        x.expect(21, 40, 900, 0);
        x.expect(21, 3, 900, 0);
        x.expect(21, 50, 900, 0);
        x.expect(21, 2, 900, 0);
        x.pass(1);
        for (int i = 0; i < 4; i++) {
            check.due("in ascending order, by numbers, not by minutes", x.aircraft(i, 6), i < 3 ? i : NONE);
            eventIs("in ascending order", x, 3 - i, i < 3 ? 1 : 2, 50, i);
        }
    }

    private static void arrivalAtTheSmallestSpan() {
        int[][] due = {{1, 4, 1, 3, 2, 5, 0}, {2, 1, 3, 2, 5, 0, NONE}, {3, 2, 5, 0, NONE, NONE, NONE},
            {4, 0, NONE, NONE, NONE, NONE, NONE}};
        for (int[] one : due) {
            StandTugs x = new StandTugs();
            x.begin(6, 1);
            int[] spans = {4, 2, 3, 2, 1, 3};
            for (int i = 0; i < 6; i++) {
                x.setSpan(i, spans[i]);
                x.expect(10 * one[0] + 1, 0, 900, 0);
            }
            x.pass(1);
            for (int i = 0; i < 6; i++) {
                check.due("the free stand with the smallest span that is at least its own, of several the lowest: span "
                        + one[0] + ", the " + i + "th", x.aircraft(i, 6), one[i + 1]);
            }
        }
    }

    private static void arrivalAtABay() {
        StandTugs x = new StandTugs();
        x.begin(1, 1);
        x.expect(31, 0, 900, 10);
        x.expect(21, 0, 900, 10);
        x.expect(11, 0, 900, 10);
        x.pass(1);
        check.due("none for its span: a bay", x.aircraft(0, 5), 2);
        check.due("a bay is no stand", x.aircraft(0, 6), NONE);
        check.due("a free one: the stand", x.aircraft(1, 5), 1);
        check.due("none free: a bay", x.aircraft(2, 5), 2);
        check.due("buses are needed at a bay", x.aircraft(0, 9), 1);
        check.due("no buses are needed at a stand", x.aircraft(1, 9), 0);
    }

    private static void busesThatAreBegun() {
        int[][] due = {{0, 0}, {1, 1}, {49, 1}, {50, 1}, {51, 2}, {99, 2}, {100, 2}, {101, 3}, {350, 7}, {351, 8},
            {399, 8}, {400, 8}};
        for (int[] one : due) {
            StandTugs x = new StandTugs();
            x.expect(41, 0, 9, one[0]);
            x.pass(1);
            check.due("one for each 50 passengers that are begun, of " + one[0], x.aircraft(0, 9), one[1]);
            check.due("all buses, of " + one[0], x.value(14), one[1]);
            x.pass(9);
            check.due("once more, of " + one[0], x.aircraft(0, 9), 2 * one[1]);
            check.due("all buses once more, of " + one[0], x.value(14), 2 * one[1]);
        }
    }

    private static void pushbackWhenItLeaves() {
        for (int leaves : new int[] {1, 2, 10, 1998, 1999}) {
            StandTugs x = new StandTugs();
            x.expect(21, 0, leaves, 0);
            Scenes.passTo(x, leaves);
            check.due("not in the minute before " + leaves, x.aircraft(0, 5), 1);
            x.pass(1);
            check.due("minute of leaving at most t, " + leaves, x.aircraft(0, 5), 4);
            check.due("at once, " + leaves, x.aircraft(0, 7), 0);
        }
        StandTugs y = new StandTugs();
        y.pass(100);
        y.expect(21, 0, 99, 0);
        y.expect(41, 0, 1, 0);
        y.pass(1);
        check.due("the one that wanted to leave first is pushed in the minute in which it comes", y.aircraft(1, 7), 99);
        y.pass(5);
        check.due("the other one after it", y.aircraft(0, 7), 6);
    }

    private static void pushbacksInOrder() {
        StandTugs x = new StandTugs();
        x.setCurfew(0, 100);
        int[] leaves = {12, 11, 13, 11, 10, 12, 1, 99};
        int[] turns = {4, 2, 6, 3, 1, 5, 0, 7};
        for (int i = 0; i < leaves.length; i++) {
            x.expect(41, 0, leaves[i], 0);
        }
        x.pass(200);
        for (int i = 0; i < leaves.length; i++) {
            check.due("by ascending minutes of leaving, equal ones by their numbers: " + i, x.aircraft(i, 7),
                    100 + 5 * turns[i] - leaves[i]);
        }
    }

    private static StandTugs sixStands(int first, int firstLeaves, int second, int secondLeaves) {
        StandTugs x = new StandTugs();
        x.begin(6, 2);
        for (int i = 0; i < 6; i++) {
            x.expect(21, 0, i == first ? firstLeaves : i == second ? secondLeaves : 900, 0);
        }
        return x;
    }

    private static void pushbackNextToPushback() {
        for (int first = 0; first < 6; first++) {
            for (int second = 0; second < 6; second++) {
                if (first != second) {
                    StandTugs x = sixStands(first, 9, second, 12);
                    boolean isNeighbor = second == first - 1 || second == first + 1;
                    String label = "no aircraft is being pushed back from a neighboring stand: " + first + ", " + second;
                    Scenes.passTo(x, 12);
                    check.due(label + ", why", x.why(second), isNeighbor ? 6 : 0);
                    x.pass(20);
                    check.due(label + ", delay", x.aircraft(second, 7), isNeighbor ? 2 : 0);
                    check.due(label + ", the first is not delayed", x.aircraft(first, 7), 0);
                }
            }
        }
    }

    private static void pushbackSinceThisMinute() {
        for (int first = 0; first < 6; first++) {
            for (int second = first + 1; second < 6; second++) {
                StandTugs x = sixStands(first, 10, second, 10);
                x.pass(30);
                check.due("also since this minute: " + first + ", " + second, x.aircraft(second, 7),
                        second == first + 1 ? 5 : 0);
                check.due("the first of them", x.aircraft(first, 7), 0);
            }
        }
    }

    private static void pushbackNextToTow() {
        StandTugs x = new StandTugs();
        x.begin(2, 2);
        x.setSpan(1, 1);
        x.expect(21, 0, 12, 0);
        x.expect(21, 0, 90, 0);
        x.pass(9);
        x.setSpan(1, 2);
        x.pass(4);
        check.due("one is towed to the neighboring stand", x.aircraft(1, 6), 1);
        check.due("no pushback there", x.stand(1, 2), 0);
        check.due("one that is towed does not hold it up", x.aircraft(0, 7), 0);
    }

    private static void bayHasNoNeighbors() {
        for (int stands = 1; stands <= 2; stands++) {
            StandTugs x = new StandTugs();
            x.begin(stands, 3);
            x.expect(41, 0, 9, 0);
            x.expect(41, 0, 10, 0);
            x.expect(21, 0, 10, 0);
            Scenes.passTo(x, 10);
            check.due("a bay has no neighbors, another bay", x.why(1), 0);
            check.due("a bay has no neighbors, the stand 0", x.why(2), 0);
            x.pass(1);
            check.due("a bay next to a bay", x.aircraft(1, 7), 0);
            check.due("a stand and bays", x.aircraft(2, 7), 0);
            StandTugs y = new StandTugs();
            y.begin(stands, 2);
            y.expect(21, 0, 9, 0);
            y.expect(41, 0, 10, 0);
            Scenes.passTo(y, 10);
            check.due("a bay has no neighbors, a stand that is pushed back from", y.why(1), 0);
            y.pass(1);
            check.due("a bay next to no stand", y.aircraft(1, 7), 0);
        }
    }

    /** The least strength that is at least the weight, of several tugs the lowest; NONE without one. */
    private static int leastTug(int[] strengths, int weight) {
        for (int strength = weight; strength <= 3; strength++) {
            for (int i = 0; i < 3; i++) {
                if (strengths[i] == strength) {
                    return i;
                }
            }
        }
        return NONE;
    }

    private static int busyTug(StandTugs x) {
        for (int i = 0; i < x.value(1); i++) {
            if (x.tug(i, 1) != NONE) {
                return i;
            }
        }
        return NONE;
    }

    private static void pushbackByTheLeastTug() {
        for (int all = 0; all < 81; all++) {
            int[] strengths = {1 + all % 3, 1 + all / 3 % 3, 1 + all / 9 % 3};
            int weight = 1 + all / 27;
            StandTugs x = new StandTugs();
            x.begin(1, 3);
            for (int i = 0; i < 3; i++) {
                x.setStrength(i, strengths[i]);
            }
            x.expect(20 + weight, 0, 1, 0);
            x.pass(1);
            int due = leastTug(strengths, weight);
            String label = "the one with the least such strength, of several the lowest one: " + strengths[0] + " "
                    + strengths[1] + " " + strengths[2] + " for " + weight;
            check.due(label + ", why", x.why(0), due == NONE ? 7 : 0);
            check.due(label + ", none before", busyTug(x), NONE);
            x.pass(1);
            check.due(label, busyTug(x), due);
            for (int i = 0; i < 3; i++) {
                check.due(label + ", pushed so far by " + i, x.tug(i, 3), i == due ? 1 : 0);
                check.due(label + ", towed so far by " + i, x.tug(i, 4), 0);
            }
        }
    }

    private static void pushbackWithoutATug() {
        StandTugs x = twoAtOnce();
        x.setStrength(0, 1);
        Scenes.passTo(x, 10);
        check.due("too heavy for each tug", x.why(1), 7);
        x.pass(1);
        check.due("the light one is pushed back", x.aircraft(0, 5), 4);
        check.due("the heavy one waits", x.aircraft(1, 5), 1);
        check.due("it has no delay yet", x.aircraft(1, 7), NONE);
        x.setStrength(0, 2);
        check.due("a strong one that is busy does not matter", x.why(1), 7);
        Scenes.passTo(x, 15);
        check.due("with one minute left it is busy", x.why(1), 7);
        x.pass(1);
        check.due("when it is free it pushes", x.aircraft(1, 7), 5);
    }

    private static void busesOnceMore() {
        StandTugs x = new StandTugs();
        x.expect(21, 0, 10, 400);
        x.expect(41, 0, 20, 400);
        x.pass(11);
        check.due("no buses for a pushback from a stand", x.aircraft(0, 9), 0);
        x.pass(9);
        check.due("buses when it comes to a bay", x.aircraft(1, 9), 8);
        x.pass(1);
        check.due("if it is on a bay, buses are needed once more", x.aircraft(1, 9), 16);
        x.pass(9);
        check.due("none when it is gone", x.value(14), 16);
        StandTugs y = oneTow(1, 21, 60);
        y.pass(61);
        check.due("pushed back from the stand", y.aircraft(1, 5), 4);
        check.due("one that was towed needs none once more", y.aircraft(1, 9), 1);
    }

    private static void towAfterMoreThan30() {
        for (int leaves = 44; leaves <= 47; leaves++) {
            StandTugs x = oneTow(1, 21, leaves);
            x.pass(16);
            check.due("minute of leaving greater than t + 30, t = 15, " + leaves, x.aircraft(1, 5), leaves > 45 ? 3 : 2);
            x.pass(60);
            check.due("later neither, " + leaves, x.tug(0, 4), leaves > 45 ? 1 : 0);
            check.due("it leaves when it wants, " + leaves, x.aircraft(1, 7), 0);
        }
        StandTugs y = oneTow(1, 21, 1999);
        y.setCurfew(10, 1300);
        Scenes.passTo(y, 1300);
        y.setLeaves(1, 1335);
        y.pass(6);
        check.due("t + 30, t = 1305", y.aircraft(1, 5), 2);
        y.setLeaves(1, 1337);
        y.pass(1);
        check.due("more than t + 30, t = 1306", y.aircraft(1, 5), 3);
    }

    private static void towsInAscendingOrder() {
        StandTugs x = new StandTugs();
        x.begin(1, 3);
        x.expect(11, 0, 10, 0);
        x.expect(31, 0, 500, 0);
        x.expect(21, 2, 900, 0);
        x.expect(21, 1, 100, 0);
        x.pass(16);
        check.due("too wide for the stand", x.aircraft(1, 5), 2);
        check.due("in ascending order, by numbers alone", x.aircraft(2, 5), 3);
        check.due("the stand is no longer free", x.aircraft(3, 5), 2);
    }

    private static void towToTheSmallestSpan() {
        int[][] due = {{1, 4, 1, 3}, {2, 1, 3, 2}, {3, 2, 5, 0}, {4, 0, NONE, NONE}};
        for (int[] one : due) {
            StandTugs x = new StandTugs();
            x.begin(6, 3);
            int[] spans = {4, 2, 3, 2, 1, 3};
            for (int i = 0; i < 6; i++) {
                x.setSpan(i, 1);
                x.expect(11, 0, 10, 0);
            }
            for (int i = 0; i < 3; i++) {
                x.expect(10 * one[0] + 1, 0, 900, 0);
            }
            // In the minute 15 all tugs are needed for pushbacks; in the minute 20 nobody leaves late enough for a tow.
            Scenes.passTo(x, 20);
            for (int i = 0; i < 3; i++) {
                x.setLeaves(6 + i, 21);
            }
            x.pass(1);
            check.due("all stands are free then", x.value(11), 6);
            for (int i = 0; i < 3; i++) {
                x.setLeaves(6 + i, 900);
            }
            for (int i = 0; i < 6; i++) {
                x.setSpan(i, spans[i]);
            }
            Scenes.passTo(x, 50);
            for (int i = 0; i < 3; i++) {
                check.due("a free stand for it as for arrivals: span " + one[0] + ", the " + i + "th",
                        x.aircraft(6 + i, 6), one[i + 1]);
            }
        }
    }

    private static void towByTheLeastTug() {
        for (int all = 0; all < 81; all++) {
            int[] strengths = {1 + all % 3, 1 + all / 3 % 3, 1 + all / 9 % 3};
            int weight = 1 + all / 27;
            StandTugs x = oneTow(3, 20 + weight, 900);
            x.pass(15);
            for (int i = 0; i < 3; i++) {
                x.setStrength(i, strengths[i]);
            }
            x.pass(1);
            int due = leastTug(strengths, weight);
            String label = "a free tug as above: " + strengths[0] + " " + strengths[1] + " " + strengths[2] + " for "
                    + weight;
            check.due(label, busyTug(x), due);
            check.due(label + ", its place", x.aircraft(1, 5), due == NONE ? 2 : 3);
            check.due(label + ", its stand", x.aircraft(1, 6), due == NONE ? NONE : 0);
            check.due(label + ", the stand", x.stand(0, 1), due == NONE ? NONE : 1);
            for (int i = 0; i < 3; i++) {
                check.due(label + ", towed so far by " + i, x.tug(i, 4), i == due ? 1 : 0);
            }
        }
        StandTugs x = new StandTugs();
        x.begin(2, 2);
        x.setStrength(0, 2);
        x.setSpan(0, 1);
        x.setSpan(1, 1);
        x.expect(23, 0, 900, 0);
        x.expect(23, 0, 900, 0);
        x.expect(22, 0, 900, 0);
        x.pass(5);
        x.setSpan(0, 4);
        x.setSpan(1, 4);
        x.pass(1);
        check.due("tugs are for the first", x.aircraft(0, 6), 0);
        check.due("none is free that is strong enough", x.aircraft(1, 5), 2);
        check.due("one after it is towed by a weaker one", x.aircraft(2, 6), 1);
    }

    private static void towInCurfewAndNextToPushback() {
        StandTugs x = oneTow(1, 21, 900);
        x.setCurfew(11, 1440);
        x.pass(16);
        check.due("the curfew does not matter", x.aircraft(1, 5), 3);
        StandTugs y = new StandTugs();
        y.begin(3, 3);
        y.setSpan(1, 1);
        y.expect(21, 0, 10, 0);
        y.expect(21, 0, 10, 0);
        y.expect(21, 0, 90, 0);
        y.pass(10);
        y.setSpan(1, 2);
        y.pass(1);
        check.due("both neighbors are pushed back", y.stand(0, 2) + y.stand(2, 2), 2);
        check.due("neighbors do not matter", y.aircraft(2, 6), 1);
    }

    private static void towAfterPushbacks() {
        StandTugs x = new StandTugs();
        x.begin(1, 1);
        x.expect(21, 0, 10, 0);
        x.expect(41, 0, 15, 0);
        x.expect(21, 1, 900, 0);
        x.pass(16);
        check.due("the pushbacks of a minute are ahead of its tows", x.aircraft(1, 5), 4);
        check.due("then no tug is free", x.aircraft(2, 5), 2);
        x.pass(5);
        check.due("until it is", x.aircraft(2, 5), 3);
        eventIs("the tow begins", x, 0, 5, 20, 2);
    }

    private static void minutesAreCounted() {
        StandTugs x = oneTow(1, 21, 40);
        int[][] due = {{0, 0, 0}, {1, 1, 0}, {10, 10, 0}, {11, 11, 0}, {15, 15, 0}, {16, 15, 0}, {41, 15, 0}};
        for (int[] one : due) {
            Scenes.passTo(x, one[0]);
            check.due("on a stand and pushed back, at " + one[0], x.aircraft(0, 8), one[1]);
            check.due("those on a bay have none, at " + one[0], x.aircraft(1, 8), one[2]);
            check.due("the stand's minutes, at " + one[0], x.stand(0, 3), one[1]);
        }
        StandTugs y = oneTow(1, 21, 60);
        int[][] towed = {{15, 0}, {16, 1}, {25, 10}, {26, 11}, {60, 45}, {61, 46}, {65, 50}, {66, 50}, {99, 50}};
        for (int[] one : towed) {
            Scenes.passTo(y, one[0]);
            check.due("towed to one, at " + one[0], y.aircraft(1, 8), one[1]);
            check.due("the stand's minutes, at " + one[0], y.stand(0, 3), 15 + one[1]);
        }
    }

    private static void delayOfAPushback() {
        StandTugs x = new StandTugs();
        x.setSpan(1, 1);
        x.expect(21, 0, 10, 0);
        x.expect(21, 0, 10, 0);
        x.expect(21, 0, 10, 0);
        x.pass(10);
        check.due("no delay before its pushback", x.aircraft(0, 7), NONE);
        check.due("nor a sum", x.value(12), 0);
        check.due("nor a greatest", x.value(13), 0);
        x.pass(1);
        check.due("the minute in which it began, minus the one at which it wanted to leave", x.aircraft(0, 7), 0);
        x.pass(5);
        check.due("of the second", x.aircraft(1, 7), 5);
        x.setLeaves(2, 2);
        x.pass(5);
        check.due("of the third, which has wanted to leave sooner since", x.aircraft(2, 7), 18);
        x.pass(5);
        check.due("of one that is gone", x.aircraft(2, 7), 18);
        check.due("the sum of all", x.value(12), 23);
        check.due("the greatest", x.value(13), 18);
    }

    private static void sixEvents() {
        StandTugs x = oneTow(1, 21, 60);
        x.pass(70);
        int[][] due = {{4, 65, 1}, {3, 60, 1}, {6, 25, 1}, {5, 15, 1}, {4, 15, 0}, {3, 10, 0}, {2, 1, 1}, {1, 0, 0}};
        check.due("each event is put into the log", x.value(15), due.length);
        for (int i = 0; i < due.length; i++) {
            eventIs("event " + i, x, i, due[i][0], due[i][1], due[i][2]);
        }
    }

    /** All on bays: 12 come in the minutes 0 to 11, from 100 on one begins and is gone every 10 minutes. */
    private static void latest30Events() {
        StandTugs x = new StandTugs();
        for (int i = 0; i < 12; i++) {
            x.expect(41, i, 100 + 10 * i, 0);
        }
        check.due("no event at first", x.value(15), 0);
        check.outside(x, "no latest event at first", () -> x.event(0, 0));
        int[][] due = {{1, 1}, {12, 12}, {180, 28}, {181, 29}, {186, 30}, {191, 30}, {196, 30}, {216, 30}};
        int[][] oldest = {{0, 0}, {0, 0}, {0, 0}, {0, 0}, {0, 0}, {1, 1}, {2, 2}, {6, 6}};
        for (int i = 0; i < due.length; i++) {
            Scenes.passTo(x, due[i][0]);
            int kept = due[i][1];
            check.due("the latest 30 events are kept, at " + due[i][0], x.value(15), kept);
            eventIs("the oldest one kept, at " + due[i][0], x, kept - 1, 2, oldest[i][0], oldest[i][1]);
            check.outside(x, "not so many are kept, at " + due[i][0], () -> x.event(kept, 0));
        }
        eventIs("the latest", x, 0, 4, 215, 11);
        x.begin(3, 1);
        check.due("an empty log", x.value(15), 0);
        x.expect(21, 0, 9, 0);
        x.pass(1);
        check.due("its first event", x.value(15), 1);
        eventIs("its first event", x, 0, 1, 0, 0);
    }

    /** Twelve that come to bays, are towed, pushed back and gone: the most events there can be. */
    private static StandTugs sixty() {
        StandTugs x = new StandTugs();
        x.begin(6, 3);
        for (int i = 0; i < 6; i++) {
            x.setSpan(i, 1);
        }
        for (int i = 0; i < 12; i++) {
            x.expect(21, 0, 300 + 100 * i, 0);
        }
        x.pass(1);
        for (int i = 0; i < 6; i++) {
            x.setSpan(i, 2);
        }
        return x;
    }

    private static int[][] eventsOfSixty() {
        int[][] events = new int[60][];
        int count = 0;
        for (int i = 0; i < 12; i++) {
            events[count++] = new int[] {2, 0, i};
        }
        int[][] firstTows = {{5, 1, 0}, {5, 1, 1}, {5, 1, 2}, {6, 11, 0}, {6, 11, 1}, {6, 11, 2}, {5, 11, 3},
            {5, 11, 4}, {5, 11, 5}, {6, 21, 3}, {6, 21, 4}, {6, 21, 5}};
        for (int[] tow : firstTows) {
            events[count++] = tow;
        }
        for (int i = 0; i < 12; i++) {
            events[count++] = new int[] {3, 300 + 100 * i, i};
            events[count++] = new int[] {4, 305 + 100 * i, i};
            if (i < 6) {
                events[count++] = new int[] {5, 305 + 100 * i, 6 + i};
                events[count++] = new int[] {6, 315 + 100 * i, 6 + i};
            }
        }
        return events;
    }

    private static void sixtyEvents() {
        int[][] events = eventsOfSixty();
        for (int minute : new int[] {1, 2, 12, 22, 301, 306, 405, 406, 416, 701, 801, 806, 816, 1301, 1401, 1406, 1900}) {
            StandTugs x = sixty();
            Scenes.passTo(x, minute);
            int total = 0;
            while (total < 60 && events[total][1] < minute) {
                total++;
            }
            int kept = Math.min(30, total);
            check.due("the latest 30 of " + total + " are kept", x.value(15), kept);
            for (int i = 0; i < kept; i++) {
                int[] due = events[total - 1 - i];
                eventIs("of " + total + " the " + i + "th latest", x, i, due[0], due[1], due[2]);
            }
            check.outside(x, "of " + total + " no more than " + kept, () -> x.event(kept, 0));
        }
    }
}
