/** Promises 1 to 14 and 20 to 22: the sentences that name a boundary, a test each; what is refused is in RefusedTest. */
public final class CallEdgesTest {
    private static final Check check = new Check();
    private static final int NONE = StandTugs.NONE;

    public static void main(String[] args) {
        newObject();
        beginWithAllSizes();
        beginForgetsAllAircraft();
        beginAnswersTheMinutesBefore();
        spanUnderAnAircraft();
        strengthOfABusyTug();
        settingsAnswerThePrevious();
        minutesOfADayInTheCurfew();
        allKindsOfAircraft();
        leastAndGreatestAircraft();
        leastAndGreatestLeaves();
        leavesAtEachPlace();
        fromOneTo500Minutes();
        toTheMinute10000();
        longPassesAreLikeShortOnes();
        thoseThatAreGoneInThem();
        standOfAnAircraft();
        minutesAndBusesOfAnAircraft();
        whoIsOnAStand();
        tugsCount();
        delaysOfNobody();
        greatestDelay();
        firstAndLastEvent();
        whyTheFirstOfSeveral();
        whyAheadOfTheMinute();
        appendAndClear();
        parseAnswers();
        parseWithErrorChangesNothing();
        parseOfEachSize();
        check.end();
    }

    private static void newObject() {
        StandTugs x = new StandTugs();
        long[] told = {0, 3, 1, 0, 0, 0, 0, 0, 0, 0, 0, 0, 0, 0, 0, 0, 0, 2, NONE, 0, 0, 2, NONE, 0, 0, 2, NONE, 0, 0,
            3, NONE, 0, 0, 0, 0, 0};
        long hash = 3541;
        for (long one : told) {
            hash = 31 * hash + one;
        }
        check.due("1, 24: 3 stands with one tug, without aircraft, at minute 0", x.digest(), hash);
        check.due("1: used at minute 0", x.used(), 0.0);
        check.due("1: an empty text", x.clearText(), 0);
    }

    /** With four states saved, a curfew, and all else in use. */
    private static StandTugs busy() {
        StandTugs x = new StandTugs();
        x.begin(6, 3);
        for (int i = 0; i < 12; i++) {
            x.expect(11 + 10 * (i % 4), i, 20 + 3 * i, 30 * i);
        }
        for (int i = 0; i < 6; i++) {
            x.setSpan(i, 1 + i % 4);
        }
        x.setStrength(1, 1);
        x.setCurfew(25, 30);
        x.pass(45);
        return x;
    }

    private static void beginWithAllSizes() {
        for (int stands = 1; stands <= 6; stands++) {
            for (int tugs = 1; tugs <= 3; tugs++) {
                StandTugs x = busy();
                check.due("2: the minutes before", x.begin(stands, tugs), 45);
                StandTugs y = new StandTugs();
                for (int i = 0; i < 4; i++) {
                    y.setCurfew(25, 30);
                }
                y.begin(stands, tugs);
                check.due("2: all as at first, the curfew stays: " + stands + ", " + tugs, x.digest(), y.digest());
                check.due("2: its begin", x.value(4), 25);
                check.due("2: its end", x.value(5), 30);
                check.due("2: undoable", x.undo(), 3);
                check.due("2: the minute before", x.value(3), 45);
            }
        }
    }

    private static void beginForgetsAllAircraft() {
        StandTugs x = busy();
        StandTugs y = new StandTugs();
        x.begin(2, 1);
        y.setCurfew(25, 30);
        y.begin(2, 1);
        for (int i = 0; i < 12; i++) {
            x.expect(31, 2 + i, 20 + i, 60);
            y.expect(31, 2 + i, 20 + i, 60);
        }
        check.due("2: aircraft that are told after it", x.digest(), y.digest());
        x.pass(25);
        y.pass(25);
        check.due("2: and come after it", x.digest(), y.digest());
    }

    private static void beginAnswersTheMinutesBefore() {
        StandTugs x = new StandTugs();
        check.due("2: 0 minutes before", x.begin(3, 1), 0);
        x.pass(1);
        check.due("2: 1 minute before", x.begin(3, 1), 1);
        Scenes.passTo(x, 10000);
        check.due("2: 10000 minutes before", x.begin(3, 1), 10000);
        check.due("2: at minute 0", x.value(3), 0);
        check.due("2: minutes pass again", x.pass(500), 0);
    }

    private static void spanUnderAnAircraft() {
        StandTugs x = new StandTugs();
        x.begin(1, 1);
        x.setSpan(0, 4);
        x.expect(41, 0, 50, 0);
        x.expect(41, 51, 90, 0);
        x.pass(1);
        check.due("3: the previous span", x.setSpan(0, 1), 4);
        x.pass(49);
        check.due("3: an aircraft that has it stays", x.aircraft(0, 6), 0);
        x.pass(1);
        check.due("3: it is pushed back from it", x.stand(0, 2), 1);
        x.pass(10);
        check.due("3: the next one does not fit", x.aircraft(1, 5), 2);
    }

    private static void strengthOfABusyTug() {
        StandTugs x = new StandTugs();
        x.begin(1, 1);
        x.expect(23, 0, 10, 0);
        x.expect(23, 0, 100, 0);
        x.pass(11);
        check.due("4: the previous strength", x.setStrength(0, 1), 3);
        check.due("4: what it does now goes on, pushing", x.tug(0, 1), 0);
        check.due("4: in the same time", x.tug(0, 2), 5);
        x.pass(4);
        x.setStrength(0, 3);
        check.due("4: it is gone", x.pass(1), 1);
        check.due("4: a tow begins", x.tug(0, 1), 1);
        check.due("4: the previous strength again", x.setStrength(0, 2), 3);
        x.pass(10);
        check.due("4: what it does now goes on, towing", x.aircraft(1, 5), 1);
        x.pass(100);
        check.due("4: then it is too weak", x.why(1), 7);
    }

    private static void settingsAnswerThePrevious() {
        StandTugs x = new StandTugs();
        x.begin(6, 3);
        for (int i = 0; i < 6; i++) {
            check.due("3: the first span", x.setSpan(i, 1), 2);
            check.due("3: the least span", x.setSpan(i, 4), 1);
            check.due("3: the greatest span", x.setSpan(i, 4), 4);
            check.due("3: it is set", x.stand(i, 0), 4);
            check.due("3: the next one is not", x.stand((i + 1) % 6, 0), i == 5 ? 4 : 2);
        }
        for (int i = 0; i < 3; i++) {
            check.due("4: the first strength", x.setStrength(i, 1), 3);
            check.due("4: the least strength", x.setStrength(i, 3), 1);
            check.due("4: the greatest strength", x.setStrength(i, 1), 3);
            check.due("4: it is set", x.tug(i, 0), 1);
            check.due("4: the next one is not", x.tug((i + 1) % 3, 0), i == 2 ? 1 : 3);
        }
    }

    private static void minutesOfADayInTheCurfew() {
        StandTugs x = new StandTugs();
        for (int begin : new int[] {0, 1, 2, 719, 720, 1438, 1439, 1440}) {
            for (int end : new int[] {0, 1, 2, 719, 720, 1438, 1439, 1440}) {
                check.due("5: the minutes of a day that are in it: " + begin + " to " + end, x.setCurfew(begin, end),
                        end > begin ? end - begin : 0);
                check.due("5: its begin as it was told", x.value(4), begin);
                check.due("5: its end as it was told", x.value(5), end);
            }
        }
    }

    private static void allKindsOfAircraft() {
        StandTugs x = new StandTugs();
        int number = 0;
        for (int span = 1; span <= 4; span++) {
            for (int weight = 1; weight <= 3; weight++) {
                check.due("6: the number of the aircraft", x.expect(10 * span + weight, 0, 1, 0), number);
                check.due("6: 10 * span + weight, its span", x.aircraft(number, 0), span);
                check.due("6: 10 * span + weight, its weight", x.aircraft(number, 1), weight);
                number++;
            }
        }
        check.due("6: 12 aircraft", x.value(2), 12);
        check.due("6: all expected", x.value(6), 12);
    }

    private static void leastAndGreatestAircraft() {
        int[][] told = {{11, 0, 1, 0}, {43, 1998, 1999, 400}, {11, 0, 1999, 400}, {43, 999, 1000, 1}};
        StandTugs x = new StandTugs();
        for (int i = 0; i < told.length; i++) {
            check.due("6: told", x.expect(told[i][0], told[i][1], told[i][2], told[i][3]), i);
            int[] due = {told[i][0] / 10, told[i][0] % 10, told[i][1], told[i][2], told[i][3], 0, NONE, NONE, 0, 0};
            for (int what = 0; what < 10; what++) {
                check.due("6: expected, as told: aircraft(" + i + ", " + what + ")", x.aircraft(i, what), due[what]);
            }
        }
    }

    private static void leastAndGreatestLeaves() {
        StandTugs x = new StandTugs();
        x.expect(21, 5, 90, 0);
        x.expect(21, 1998, 1999, 0);
        x.expect(21, 0, 1, 0);
        check.due("7: the least", x.setLeaves(0, 6), 90);
        check.due("7: the greatest", x.setLeaves(0, 1999), 6);
        check.due("7: the same", x.setLeaves(0, 1999), 1999);
        check.due("7: the only one of 1998", x.setLeaves(1, 1999), 1999);
        check.due("7: the greatest of 0", x.setLeaves(2, 1999), 1);
        check.due("7: the least of 0", x.setLeaves(2, 1), 1999);
        check.due("7: it is set", x.aircraft(2, 3), 1);
        check.illegal(x, "7: greater than the minute at which it comes, not 5", () -> x.setLeaves(0, 5));
        check.illegal(x, "7: greater than the minute at which it comes, not 0", () -> x.setLeaves(2, 0));
        check.illegal(x, "7: at most 1999, not 2000", () -> x.setLeaves(0, 2000));
    }

    private static void leavesAtEachPlace() {
        int[] minutes = {1, 2, 16, 26, 91, 96};
        int[] places = {0, 2, 3, 1, 4, 5};
        for (int i = 0; i < minutes.length; i++) {
            StandTugs x = new StandTugs();
            x.begin(1, 1);
            x.expect(21, 0, 10, 0);
            x.expect(21, 1, 90, 0);
            Scenes.passTo(x, minutes[i]);
            check.due("7: its place", x.aircraft(1, 5), places[i]);
            if (places[i] < 4) {
                check.due("7: one that is not pushed back and not gone", x.setLeaves(1, 91), 90);
                x.pass(150);
                check.due("7: it leaves then", x.aircraft(1, 3) + x.aircraft(1, 7), 91);
            } else {
                check.unfit(x, "7: one that is pushed back, or gone", () -> x.setLeaves(1, 91));
                check.illegal(x, "7: one that is pushed back, or gone, out of range", () -> x.setLeaves(1, 1));
                check.due("7: it stays", x.aircraft(1, 3), 90);
            }
        }
    }

    private static void fromOneTo500Minutes() {
        StandTugs x = new StandTugs();
        check.due("8: the fewest minutes", x.pass(1), 0);
        check.due("8: 1 minute", x.value(3), 1);
        check.due("8: the most minutes", x.pass(500), 0);
        check.due("8: 501 minutes", x.value(3), 501);
        check.illegal(x, "8: 1 to 500 minutes, not 0", () -> x.pass(0));
        check.illegal(x, "8: 1 to 500 minutes, not 501", () -> x.pass(501));
    }

    private static void toTheMinute10000() {
        for (int last : new int[] {1, 2, 499, 500}) {
            StandTugs x = new StandTugs();
            x.expect(21, 0, 1999, 0);
            Scenes.passTo(x, 10000 - last);
            if (last < 500) {
                check.unfit(x, "8: if the minute would be 10001", () -> x.pass(last + 1));
                check.unfit(x, "8: if the minute would be greater than 10000", () -> x.pass(500));
            }
            check.illegal(x, "8: the minutes are looked at first", () -> x.pass(501));
            check.due("8: to the minute 10000", x.pass(last), 0);
            check.due("8: the minute 10000", x.value(3), 10000);
            check.unfit(x, "8: then no more", () -> x.pass(1));
            check.illegal(x, "8: then not 0 either", () -> x.pass(0));
            check.due("8: undone", x.undo(), 3);
            check.due("8: not yet", x.value(3), 10000 - last);
        }
    }

    private static void longPassesAreLikeShortOnes() {
        StandTugs x = busyAtFirst();
        StandTugs y = busyAtFirst();
        for (int i = 0; i < 460; i++) {
            x.pass(1);
        }
        y.pass(455);
        y.pass(2);
        y.pass(1);
        y.pass(1);
        y.pass(1);
        check.due("8: 460 minutes, one by one and at once", y.digest(), x.digest());
    }

    private static StandTugs busyAtFirst() {
        StandTugs x = new StandTugs();
        x.begin(4, 2);
        x.setSpan(1, 3);
        x.setStrength(1, 1);
        x.setCurfew(100, 180);
        for (int i = 0; i < 12; i++) {
            x.expect(11 + 10 * (i % 4) + i % 3, 17 * i, 60 + 25 * i, 33 * i);
        }
        return x;
    }

    private static void thoseThatAreGoneInThem() {
        for (int minutes : new int[] {14, 15, 16, 20, 21, 30, 31, 500}) {
            StandTugs x = new StandTugs();
            x.begin(6, 2);
            x.expect(41, 0, 10, 0);
            x.expect(41, 0, 10, 0);
            x.expect(41, 0, 15, 0);
            x.expect(41, 0, 25, 0);
            int due = minutes < 16 ? 0 : minutes < 21 ? 2 : minutes < 31 ? 3 : 4;
            check.due("8: the aircraft that are gone in them, " + minutes, x.pass(minutes), due);
            check.due("8: all that are gone", x.value(11), due);
            check.due("8: the others", x.pass(100), 4 - due);
            check.due("8: nobody is gone twice", x.pass(100), 0);
        }
    }

    private static void standOfAnAircraft() {
        StandTugs x = new StandTugs();
        x.begin(2, 1);
        x.setSpan(0, 1);
        x.expect(21, 0, 10, 0);
        x.expect(21, 1, 60, 0);
        check.due("9: NONE without one, expected", x.aircraft(0, 6), NONE);
        x.pass(2);
        check.due("9: its stand", x.aircraft(0, 6), 1);
        check.due("9: NONE without one, on a bay", x.aircraft(1, 6), NONE);
        x.pass(9);
        check.due("9: of one that is pushed back, that from which", x.aircraft(0, 6), 1);
        x.pass(5);
        check.due("9: NONE without one, gone", x.aircraft(0, 6), NONE);
        check.due("9: of one that is towed, that to which", x.aircraft(1, 6), 1);
        x.pass(49);
        check.due("9: of one that was towed", x.aircraft(1, 6), 1);
        StandTugs y = new StandTugs();
        y.expect(41, 0, 10, 0);
        y.pass(11);
        check.due("9: of one that is pushed back from a bay", y.aircraft(0, 6), NONE);
        check.due("9: it is pushed back", y.aircraft(0, 5), 4);
    }

    private static void minutesAndBusesOfAnAircraft() {
        StandTugs x = new StandTugs();
        x.expect(21, 0, 1999, 400);
        x.expect(41, 0, 1999, 400);
        Scenes.passTo(x, 10000);
        check.due("9: the most minutes that one can have a stand", x.aircraft(0, 8), 2004);
        check.due("9: none on a bay", x.aircraft(1, 8), 0);
        check.due("9: no buses on a stand", x.aircraft(0, 9), 0);
        check.due("9: the most buses", x.aircraft(1, 9), 16);
        check.due("9: a delay of 0", x.aircraft(0, 7), 0);
        check.due("10: the minutes that aircraft have had it", x.stand(0, 3), 2004);
        check.due("10: the others", x.stand(1, 3) + x.stand(2, 3), 0);
        StandTugs y = new StandTugs();
        y.setStrength(0, 1);
        y.expect(22, 0, 1, 0);
        Scenes.passTo(y, 9994);
        y.setStrength(0, 2);
        y.pass(1);
        check.due("9: a great delay", y.aircraft(0, 7), 9993);
        y.pass(5);
        check.due("9: minutes to the end", y.aircraft(0, 8), 9999);
        check.due("12: gone in the last minute", y.value(11), 1);
        check.due("12: the sum of all delays", y.value(12), 9993);
        check.due("12: the greatest delay", y.value(13), 9993);
    }

    private static void whoIsOnAStand() {
        StandTugs x = new StandTugs();
        x.begin(1, 1);
        x.expect(21, 0, 10, 0);
        x.expect(21, 1, 60, 0);
        int[][] due = {{0, NONE, 0}, {1, 0, 0}, {10, 0, 0}, {11, 0, 1}, {15, 0, 1}, {16, 1, 0}, {25, 1, 0}, {26, 1, 0},
            {60, 1, 0}, {61, 1, 1}, {65, 1, 1}, {66, NONE, 0}};
        for (int[] one : due) {
            Scenes.passTo(x, one[0]);
            check.due("10: the aircraft that is on it, is towed to it, or is pushed back from it, at " + one[0],
                    x.stand(0, 1), one[1]);
            check.due("10: 1 if one is being pushed back from it, at " + one[0], x.stand(0, 2), one[2]);
        }
    }

    private static void tugsCount() {
        StandTugs x = new StandTugs();
        x.begin(1, 1);
        x.expect(21, 0, 10, 0);
        x.expect(21, 1, 60, 0);
        int[][] due = {{10, NONE, 0, 0, 0}, {11, 0, 5, 1, 0}, {15, 0, 1, 1, 0}, {16, 1, 10, 1, 1}, {25, 1, 1, 1, 1},
            {26, NONE, 0, 1, 1}, {60, NONE, 0, 1, 1}, {61, 1, 5, 2, 1}, {66, NONE, 0, 2, 1}};
        for (int[] one : due) {
            Scenes.passTo(x, one[0]);
            for (int what = 1; what < 5; what++) {
                check.due("11: tug(0, " + what + ") at " + one[0], x.tug(0, what), one[what]);
            }
        }
        x.begin(1, 1);
        check.due("11: none pushed so far", x.tug(0, 3), 0);
        check.due("11: none towed so far", x.tug(0, 4), 0);
    }

    private static void delaysOfNobody() {
        StandTugs x = new StandTugs();
        check.due("12: the sum without any", x.value(12), 0);
        check.due("12: the greatest, 0 without any", x.value(13), 0);
        x.expect(21, 0, 10, 0);
        check.due("12: the sum of one that has none", x.value(12), 0);
        check.due("12: the greatest of one that has none", x.value(13), 0);
        check.due("12: no buses", x.value(14), 0);
        check.due("12: no events", x.value(15), 0);
    }

    private static void greatestDelay() {
        for (int most = 0; most < 3; most++) {
            StandTugs x = new StandTugs();
            x.setCurfew(0, 100);
            for (int i = 0; i < 3; i++) {
                x.expect(41, 0, i == most ? 10 : 60 + i, 0);
            }
            x.pass(101);
            check.due("12: the greatest so far, of " + most, x.value(13), 90);
            check.due("12: the sum so far, of " + most, x.value(12), 90);
            x.pass(20);
            check.due("12: the greatest, of " + most, x.value(13), 90);
            int others = most == 0 ? 105 - 61 + 110 - 62 : most == 1 ? 105 - 60 + 110 - 62 : 105 - 60 + 110 - 61;
            check.due("12: the sum, of " + most, x.value(12), 90 + others);
        }
    }

    private static void firstAndLastEvent() {
        StandTugs x = new StandTugs();
        check.outside(x, "13: not so many are kept, of none", () -> x.event(0, 0));
        x.expect(21, 4, 9, 0);
        x.pass(5);
        check.due("13: the event", x.event(0, 0), 1);
        check.due("13: its minute", x.event(0, 1), 4);
        check.due("13: its aircraft", x.event(0, 2), 0);
        check.outside(x, "13: not so many are kept, of one", () -> x.event(1, 0));
        check.outside(x, "13: none later than the latest", () -> x.event(-1, 0));
        check.illegal(x, "13: what is 0 to 2, not 3", () -> x.event(0, 3));
        check.illegal(x, "13: what is 0 to 2, not -1", () -> x.event(0, -1));
        check.outside(x, "13: the index is looked at first", () -> x.event(1, 3));
    }

    private static void whyTheFirstOfSeveral() {
        StandTugs x = new StandTugs();
        x.begin(2, 1);
        x.expect(21, 0, 10, 0);
        x.expect(22, 0, 20, 0);
        x.expect(21, 200, 210, 0);
        x.pass(11);
        x.setStrength(0, 1);
        check.due("14: 4 ahead of 6 and 7", x.why(1), 4);
        x.setCurfew(0, 1440);
        check.due("14: 4 ahead of 5, 6 and 7", x.why(1), 4);
        x.setLeaves(1, 11);
        check.due("14: 5 ahead of 6 and 7", x.why(1), 5);
        x.setCurfew(11, 12);
        check.due("14: 5 of this minute", x.why(1), 5);
        x.setCurfew(12, 13);
        check.due("14: 6 ahead of 7", x.why(1), 6);
        x.setCurfew(10, 11);
        check.due("14: 6, the curfew is over", x.why(1), 6);
        check.due("14: 1 ahead of 4 and 7", x.why(2), 1);
        x.setCurfew(0, 1440);
        check.due("14: 1 ahead of 4, 5 and 7", x.why(2), 1);
        check.due("14: 3 ahead of 5 and 7, pushed back", x.why(0), 3);
        x.pass(10);
        check.due("14: 3 ahead of 5, gone", x.why(0), 3);
        check.due("14: 5 ahead of 7", x.why(1), 5);
        x.setCurfew(0, 0);
        check.due("14: 7 is the last one", x.why(1), 7);
        x.setStrength(0, 2);
        check.due("14: 0 without any", x.why(1), 0);
        StandTugs y = new StandTugs();
        y.begin(1, 1);
        y.expect(21, 0, 10, 0);
        y.expect(21, 1, 90, 0);
        y.pass(16);
        y.setCurfew(0, 1440);
        check.due("14: 2 ahead of 4, 5 and 7", y.why(1), 2);
        y.setLeaves(1, 2);
        check.due("14: 2 ahead of 5 and 7", y.why(1), 2);
    }

    private static void whyAheadOfTheMinute() {
        StandTugs x = new StandTugs();
        x.begin(2, 2);
        x.expect(21, 0, 10, 0);
        x.expect(21, 0, 12, 0);
        x.expect(41, 15, 16, 0);
        Scenes.passTo(x, 15);
        check.due("14: ahead of step 1, a neighbor that will be gone", x.why(1), 6);
        check.due("14: ahead of step 2, one that will have come", x.why(2), 1);
        check.due("14: asking changes nothing", x.aircraft(0, 5), 4);
        x.pass(1);
        check.due("14: it was pushed back all the same", x.aircraft(1, 7), 3);
        check.due("14: as it has come", x.why(2), 0);
        StandTugs y = new StandTugs();
        y.expect(41, 0, 10, 0);
        y.expect(41, 0, 12, 0);
        Scenes.passTo(y, 15);
        check.due("14: ahead of step 1, a tug that will be free", y.why(1), 7);
        y.pass(1);
        check.due("14: it took it all the same", y.aircraft(1, 7), 3);
        StandTugs z = new StandTugs();
        z.expect(21, 0, 1, 0);
        check.due("14: ahead of step 2, the very first minute", z.why(0), 1);
        z.pass(1);
        check.due("14: it would be looked at in this minute", z.why(0), 0);
    }

    private static void appendAndClear() {
        for (int value : new int[] {0, 1, 47, 48, 57, 58, 126, 127}) {
            StandTugs x = new StandTugs();
            check.due("20: the byte, 0 to 127: " + value, x.append(value), 1);
            check.due("21: the length that it had", x.clearText(), 1);
            check.due("21: empty", x.clearText(), 0);
            check.due("21: the text is empty", x.parse(), 0);
        }
        StandTugs x = new StandTugs();
        for (int i = 1; i <= 90; i++) {
            check.due("20: the new length of the text", x.append('1'), i);
        }
        check.unfit(x, "20: if the text has 90 bytes", () -> x.append('1'));
        check.illegal(x, "20: the value is looked at first", () -> x.append(128));
        check.due("21: the length that it had, 90", x.clearText(), 90);
        check.due("20: the length after it", x.append('1'), 1);
    }

    private static void parseAnswers() {
        StandTugs x = new StandTugs();
        check.due("22: the least number of aircraft", x.parse(), 0);
        Scenes.write(x, Scenes.repeated("110,1;", 12));
        check.due("22: the greatest number of aircraft", x.parse(), 12);
        Scenes.write(x, ";");
        check.due("22: -10 minus the least position", x.parse(), -10);
        Scenes.write(x, Scenes.repeated("110,1p00;", 9) + "111,1111p");
        check.due("22: -10 minus the greatest position", x.parse(), -100);
    }

    private static void parseWithErrorChangesNothing() {
        for (String text : new String[] {"x", "110,1", "110,1;110,1;2", "110,1;220,0;", "112000,1;"}) {
            StandTugs x = busy();
            StandTugs y = busy();
            Scenes.write(x, text);
            Scenes.write(y, text);
            check.holds("22: a syntax error", x.parse() <= -10);
            check.holds("22: then nothing changes: " + text, Scenes.whole(x).equals(Scenes.whole(y)));
        }
    }

    private static void parseOfEachSize() {
        for (int count = 0; count <= 12; count++) {
            StandTugs x = busy();
            StandTugs y = new StandTugs();
            String text = Scenes.repeated("327,19;", count);
            Scenes.write(x, text);
            check.due("22: the number of aircraft", x.parse(), count);
            Scenes.write(y, text);
            y.setCurfew(25, 30);
            y.begin(6, 3);
            for (int i = 0; i < 6; i++) {
                y.setSpan(i, 1 + i % 4);
            }
            y.setStrength(1, 1);
            for (int i = 0; i < count; i++) {
                y.expect(32, 7, 19, 100);
            }
            check.due("22: with the stands, tugs and the curfew as they are, " + count, x.digest(), y.digest());
            x.pass(100);
            y.pass(100);
            check.due("22: and goes on so, " + count, x.digest(), y.digest());
            x.undo();
            check.due("22: undoable, if there is no syntax error", x.undo(), 2);
            check.due("22: the minute before", x.value(3), 45);
        }
    }
}
