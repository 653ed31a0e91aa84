/** The document's terms "Field" and "Aircraft", a sentence each; every label tells its sentence. */
public final class TermsFieldTest {
    private static final Check check = new Check();
    private static final int NONE = StandTugs.NONE;

    public static void main(String[] args) {
        oneToSixStands();
        standsFromZero();
        threeStandsAtFirst();
        spansOneToFour();
        baysForAll();
        oneToThreeTugs();
        tugsFromZero();
        oneTugAtFirst();
        curfewAtFirst();
        curfewBounds();
        curfewFromItsBegin();
        curfewToTheMinuteBeforeItsEnd();
        curfewOfEachDay();
        curfewToTheDaysEnd();
        curfewFromTheDaysBegin();
        curfewOfTheWholeDay();
        noCurfewIfEndIsNotGreater();
        twelveAircraft();
        aircraftFromZero();
        placesOfAnAircraft();
        standsThatAreNotFree();
        check.end();
    }

    private static void oneToSixStands() {
        for (int stands = 1; stands <= 6; stands++) {
            StandTugs x = new StandTugs();
            x.begin(stands, 1);
            check.due("there are 1 to 6 stands, " + stands, x.value(0), stands);
            for (int i = 0; i < stands; i++) {
                x.expect(21, 0, 9, 0);
            }
            x.pass(1);
            check.due("there are 1 to 6 stands, all can be had of " + stands, x.value(7), stands);
        }
        StandTugs x = new StandTugs();
        for (int stands : Scenes.outside(1, 6)) {
            check.illegal(x, "there are 1 to 6 stands, not " + stands, () -> x.begin(stands, 1));
        }
    }

    private static void standsFromZero() {
        for (int stands = 1; stands <= 6; stands++) {
            int count = stands;
            StandTugs x = new StandTugs();
            x.begin(stands, 1);
            check.due("stands are numbered from 0", x.setSpan(0, 3), 2);
            check.due("the last one of " + stands, x.stand(stands - 1, 0), stands == 1 ? 3 : 2);
            check.outside(x, "no stand -1 of " + stands, () -> x.stand(-1, 0));
            check.outside(x, "no stand " + stands + " of so many", () -> x.stand(count, 0));
            check.outside(x, "no stand " + stands + " to set", () -> x.setSpan(count, 1));
        }
    }

    private static void threeStandsAtFirst() {
        StandTugs x = new StandTugs();
        check.due("initially 3 stands", x.value(0), 3);
        check.due("the third one", x.stand(2, 0), 2);
        check.outside(x, "no fourth one", () -> x.stand(3, 0));
    }

    private static void spansOneToFour() {
        StandTugs x = new StandTugs();
        for (int i = 0; i < 3; i++) {
            check.due("a span is initially 2", x.stand(i, 0), 2);
        }
        for (int span = 1; span <= 4; span++) {
            x.setSpan(1, span);
            check.due("a span is 1 to 4", x.stand(1, 0), span);
        }
        for (int span : Scenes.outside(1, 4)) {
            check.illegal(x, "a span is not " + span, () -> x.setSpan(1, span));
        }
    }

    private static void baysForAll() {
        StandTugs x = new StandTugs();
        for (int i = 0; i < 12; i++) {
            x.expect(43, 0, 900, 0);
        }
        x.pass(1);
        check.due("there are remote bays for all", x.value(8), 12);
    }

    private static void oneToThreeTugs() {
        for (int tugs = 1; tugs <= 3; tugs++) {
            StandTugs x = new StandTugs();
            x.begin(6, tugs);
            check.due("there are 1 to 3 tugs, " + tugs, x.value(1), tugs);
            for (int i = 0; i < 5; i++) {
                x.expect(41, 0, 9, 0);
            }
            x.pass(10);
            check.due("there are 1 to 3 tugs, all can push of " + tugs, x.value(10), tugs);
        }
        StandTugs x = new StandTugs();
        for (int tugs : Scenes.outside(1, 3)) {
            check.illegal(x, "there are 1 to 3 tugs, not " + tugs, () -> x.begin(1, tugs));
        }
    }

    private static void tugsFromZero() {
        for (int tugs = 1; tugs <= 3; tugs++) {
            int count = tugs;
            StandTugs x = new StandTugs();
            x.begin(1, tugs);
            check.due("tugs are numbered from 0", x.setStrength(0, 2), 3);
            check.due("the last one of " + tugs, x.tug(tugs - 1, 0), tugs == 1 ? 2 : 3);
            check.outside(x, "no tug -1 of " + tugs, () -> x.tug(-1, 0));
            check.outside(x, "no tug " + tugs + " of so many", () -> x.tug(count, 0));
            check.outside(x, "no tug " + tugs + " to set", () -> x.setStrength(count, 1));
        }
    }

    private static void oneTugAtFirst() {
        StandTugs x = new StandTugs();
        check.due("initially 1 tug", x.value(1), 1);
        check.due("a strength is initially 3", x.tug(0, 0), 3);
        check.outside(x, "no second one", () -> x.tug(1, 0));
        for (int strength = 1; strength <= 3; strength++) {
            x.setStrength(0, strength);
            check.due("a strength is 1 to 3", x.tug(0, 0), strength);
        }
        for (int strength : Scenes.outside(1, 3)) {
            check.illegal(x, "a strength is not " + strength, () -> x.setStrength(0, strength));
        }
    }

    /** Comes at its own first minute, alone: nothing but the curfew can delay it. Asked ahead, and then lived. */
    private static void delayed(String sentence, int begin, int end, int leaves, int due) {
        StandTugs x = new StandTugs();
        x.setCurfew(begin, end);
        x.expect(11, 0, leaves, 0);
        String label = sentence + ": curfew " + begin + " to " + end + ", leaves at " + leaves;
        check.due(label + ", asked", x.delayOf(0), due);
        check.due(label + ", minutes to all", x.minutesToAll(), leaves + due + 6);
        for (int i = 0; i < 12 && x.value(10) + x.value(11) == 0; i++) {
            x.pass(500);
        }
        check.due(label + ", lived", x.aircraft(0, 7), due);
    }

    private static void curfewAtFirst() {
        StandTugs x = new StandTugs();
        check.due("the curfew's begin is initially 0", x.value(4), 0);
        check.due("its end is initially 0", x.value(5), 0);
        check.due("then there is none", x.setCurfew(0, 0), 0);
    }

    private static void curfewBounds() {
        StandTugs x = new StandTugs();
        int[][] right = {{0, 0, 0}, {0, 1440, 1440}, {1440, 0, 0}, {1440, 1440, 0}, {0, 1, 1}, {1439, 1440, 1},
            {1, 1440, 1439}, {0, 1439, 1439}};
        for (int[] one : right) {
            check.due("each 0 to 1440: " + one[0] + " to " + one[1], x.setCurfew(one[0], one[1]), one[2]);
            check.due("its begin", x.value(4), one[0]);
            check.due("its end", x.value(5), one[1]);
        }
        for (int wrong : Scenes.outside(0, 1440)) {
            check.illegal(x, "each 0 to 1440, begin not " + wrong, () -> x.setCurfew(wrong, 9));
            check.illegal(x, "each 0 to 1440, end not " + wrong, () -> x.setCurfew(9, wrong));
            check.illegal(x, "each 0 to 1440, both not " + wrong, () -> x.setCurfew(wrong, wrong));
        }
    }

    private static void curfewFromItsBegin() {
        delayed("the minute before its begin", 10, 13, 9, 0);
        delayed("its begin", 10, 13, 10, 3);
        delayed("the minute after its begin", 10, 13, 11, 2);
        delayed("one minute", 10, 11, 10, 1);
    }

    private static void curfewToTheMinuteBeforeItsEnd() {
        delayed("to the minute before its end", 10, 13, 12, 1);
        delayed("not its end", 10, 13, 13, 0);
        delayed("not the minute after its end", 10, 13, 14, 0);
    }

    private static void curfewOfEachDay() {
        delayed("a time of each day of 1440 minutes, before it", 100, 103, 1539, 0);
        delayed("a time of each day of 1440 minutes, begin", 100, 103, 1540, 3);
        delayed("a time of each day of 1440 minutes, last minute", 100, 103, 1542, 1);
        delayed("a time of each day of 1440 minutes, end", 100, 103, 1543, 0);
    }

    private static void curfewToTheDaysEnd() {
        delayed("to the day's end, before it", 1438, 1440, 1437, 0);
        delayed("to the day's end, begin", 1438, 1440, 1438, 2);
        delayed("to the day's end, last minute", 1438, 1440, 1439, 1);
        delayed("to the day's end, the next day", 1438, 1440, 1440, 0);
        delayed("all but the first minute of a day", 1, 1440, 1, 1439);
        delayed("all but the first minute of a day, in it", 1, 1440, 1440, 0);
        delayed("all but the first minute of a day, after it", 1, 1440, 1441, 1439);
    }

    private static void curfewFromTheDaysBegin() {
        delayed("from the day's begin, the first day", 0, 2, 1, 1);
        delayed("from the day's begin, end", 0, 2, 2, 0);
        delayed("from the day's begin, the day before", 0, 2, 1439, 0);
        delayed("from the day's begin, the next day", 0, 2, 1440, 2);
        delayed("from the day's begin, its last minute", 0, 2, 1441, 1);
        delayed("from the day's begin, its end", 0, 2, 1442, 0);
        delayed("all but the last minute of a day", 0, 1439, 1, 1438);
        delayed("all but the last minute of a day, in it", 0, 1439, 1439, 0);
        delayed("all but the last minute of a day, after it", 0, 1439, 1440, 1439);
    }

    private static void curfewOfTheWholeDay() {
        StandTugs x = new StandTugs();
        x.setCurfew(0, 1440);
        x.expect(11, 0, 1, 0);
        check.due("a curfew of the whole day, asked", x.delayOf(0), NONE);
        check.due("a curfew of the whole day, minutes to all", x.minutesToAll(), NONE);
        Scenes.passTo(x, 10000);
        check.due("a curfew of the whole day, lived", x.aircraft(0, 5), 1);
        check.due("a curfew of the whole day, why", x.why(0), 5);
    }

    private static void noCurfewIfEndIsNotGreater() {
        for (int[] curfew : new int[][] {{10, 10}, {13, 10}, {1440, 0}, {1440, 1440}, {0, 0}, {1, 0}, {1439, 1439}}) {
            for (int leaves : new int[] {1, 9, 10, 11, 12, 13, 14, 1438, 1439, 1440, 1441, 1453}) {
                delayed("if the end is not greater, there is none", curfew[0], curfew[1], leaves, 0);
            }
        }
    }

    private static void twelveAircraft() {
        StandTugs x = new StandTugs();
        for (int i = 0; i < 12; i++) {
            check.due("at most 12 aircraft", x.expect(11, 0, 9, 0), i);
        }
        check.unfit(x, "at most 12 aircraft, no 13th", () -> x.expect(11, 0, 9, 0));
        x.pass(500);
        check.due("all 12 are gone", x.value(11), 12);
        check.unfit(x, "at most 12 aircraft, those that are gone too", () -> x.expect(11, 0, 9, 0));
        check.due("12 aircraft", x.value(2), 12);
        x.begin(1, 1);
        check.due("numbered from 0 again", x.expect(11, 0, 9, 0), 0);
    }

    private static void aircraftFromZero() {
        StandTugs x = new StandTugs();
        check.outside(x, "none at first", () -> x.aircraft(0, 0));
        x.expect(33, 70, 80, 5);
        x.expect(11, 2, 4, 6);
        check.due("numbered from 0 in the order in which they were told", x.aircraft(0, 2), 70);
        check.due("the second one", x.aircraft(1, 2), 2);
        check.outside(x, "no third one", () -> x.aircraft(2, 0));
        check.outside(x, "none before the first one", () -> x.aircraft(-1, 0));
    }

    private static void placesOfAnAircraft() {
        StandTugs x = new StandTugs();
        x.begin(1, 1);
        x.expect(21, 0, 10, 0);
        x.expect(21, 1, 100, 0);
        int[][] due = {{1, 0}, {2, 2}, {15, 2}, {16, 3}, {25, 3}, {26, 1}, {100, 1}, {101, 4}, {105, 4}, {106, 5}};
        for (int[] one : due) {
            Scenes.passTo(x, one[0]);
            check.due("its place at " + one[0], x.aircraft(1, 5), one[1]);
            int first = one[0] <= 10 ? 1 : one[0] <= 15 ? 4 : 5;
            for (int place = 0; place < 6; place++) {
                int count = (place == one[1] ? 1 : 0) + (place == first ? 1 : 0);
                check.due("those at place " + place + " at " + one[0], x.value(6 + place), count);
            }
        }
    }

    /** One that comes at this minute to the one stand of its span: does it get the stand? */
    private static void comesTo(String sentence, StandTugs x, boolean isFree) {
        int number = x.expect(21, 0, 1999, 0);
        x.pass(1);
        check.due(sentence, x.aircraft(number, 6), isFree ? 0 : NONE);
    }

    private static void standsThatAreNotFree() {
        for (int minute : new int[] {0, 1, 10, 11, 14, 15, 16, 24, 25, 26}) {
            StandTugs x = new StandTugs();
            x.begin(1, 1);
            x.expect(21, 0, 10, 0);
            if (minute > 15) {
                x.expect(21, 1, 100, 0);
            }
            Scenes.passTo(x, minute);
            String what = minute <= 10 ? "an aircraft is on it" : minute < 15 ? "one is pushed back from it"
                    : minute == 15 ? "it is free when that one is gone" : minute <= 25 ? "one is towed to it"
                    : "the one that was towed is on it";
            comesTo("a stand is not free if an aircraft is on it, is towed to it or is pushed back from it: " + what
                    + " at " + minute, x, minute == 15);
        }
        comesTo("a stand without one is free", new StandTugs(), true);
    }
}
