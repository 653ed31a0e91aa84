/** Promises 15 to 19: the sentences that name a boundary, a test each; what is refused is in RefusedTest. */
public final class QuestionEdgesTest {
    private static final Check check = new Check();
    private static final int NONE = StandTugs.NONE;

    public static void main(String[] args) {
        delayAsItIs();
        delayInOneOfTheNext3000Minutes();
        delayInThisMinute();
        delayOfTheLast();
        delayBeyondTheLimitOfPass();
        minutesOfNone();
        minutesUntilTheLastIsGone();
        minutesOf3000();
        minutesBeyondTheLimitOfPass();
        minutesForEver();
        tugForEachNumberOfTugs();
        tugOfEachStrength();
        tugWithin3000Minutes();
        tugThatIsTooWeak();
        tugIsOnlyAsked();
        standOfAllFour();
        standByOne();
        standOfEqualOnes();
        standWithin3000Minutes();
        standThatIsLeftOut();
        shareAtMinuteZero();
        shareOfNothingAndAll();
        shareToTheLastMinute();
        check.end();
    }

    /**
     * So many on bays that want to leave at 1, with a curfew in all but the first minute of a day: with one tug one of
     * them is pushed back at 1440, the next at 2880, then at 4320, and is gone 5 minutes later.
     */
    private static StandTugs oneADay(int aircraft, int minute) {
        StandTugs x = new StandTugs();
        for (int i = 0; i < aircraft; i++) {
            x.expect(41, 0, 1, 50);
        }
        x.setCurfew(1, 1440);
        Scenes.passTo(x, minute);
        return x;
    }

    private static void delayAsItIs() {
        StandTugs x = new StandTugs();
        x.setSpan(1, 1);
        x.expect(21, 0, 10, 0);
        x.expect(21, 0, 10, 0);
        x.pass(16);
        x.setCurfew(0, 1440);
        check.due("15: as it is, if its pushback has begun", x.delayOf(1), 5);
        check.due("15: as it is, of one that is gone", x.delayOf(0), 0);
        x.pass(500);
        check.due("15: as it is, later", x.delayOf(1), 5);
    }

    private static void delayInOneOfTheNext3000Minutes() {
        check.due("15: in the 3000th of the next minutes", oneADay(3, 1321).delayOf(2), 4319);
        check.due("15: in the 3001st", oneADay(3, 1320).delayOf(2), NONE);
        check.due("15: in the 2999th", oneADay(3, 1322).delayOf(2), 4319);
        check.due("15: the one before it", oneADay(3, 1320).delayOf(1), 2879);
        check.due("15: the first one", oneADay(3, 1320).delayOf(0), 1439);
        check.due("15: at minute 0, in the 2881st", oneADay(3, 0).delayOf(1), 2879);
        check.due("15: at minute 0, in the 4321st", oneADay(3, 0).delayOf(2), NONE);
    }

    private static void delayInThisMinute() {
        StandTugs x = new StandTugs();
        x.expect(41, 0, 10, 0);
        Scenes.passTo(x, 10);
        check.due("15: the first of the next minutes is this one", x.delayOf(0), 0);
        StandTugs y = oneADay(1, 1440);
        check.due("15: in this minute alone", y.delayOf(0), 1439);
        StandTugs z = oneADay(1, 1440);
        z.setCurfew(0, 1440);
        check.due("15: not in this one, nor another", z.delayOf(0), NONE);
    }

    private static void delayOfTheLast() {
        StandTugs x = new StandTugs();
        for (int i = 0; i < 12; i++) {
            x.expect(41, 0, 10, 0);
        }
        for (int i = 0; i < 12; i++) {
            check.due("15: of the " + i + "th", x.delayOf(i), 5 * i);
        }
    }

    private static void delayBeyondTheLimitOfPass() {
        StandTugs x = new StandTugs();
        x.setStrength(0, 1);
        x.expect(22, 0, 9, 0);
        x.setCurfew(0, 1439);
        Scenes.passTo(x, 10000);
        check.due("15: too heavy", x.delayOf(0), NONE);
        x.setStrength(0, 2);
        check.due("15: the limit of pass does not matter", x.delayOf(0), 7 * 1440 - 1 - 9);
    }

    private static void minutesOfNone() {
        StandTugs x = new StandTugs();
        check.due("16: 0 if there are none", x.minutesToAll(), 0);
        x.expect(21, 0, 1, 0);
        check.due("16: of one", x.minutesToAll(), 7);
        x.pass(6);
        check.due("16: in one minute", x.minutesToAll(), 1);
        x.pass(1);
        check.due("16: 0 if they are", x.minutesToAll(), 0);
        Scenes.passTo(x, 10000);
        check.due("16: 0 at the last minute too", x.minutesToAll(), 0);
    }

    private static void minutesUntilTheLastIsGone() {
        StandTugs x = new StandTugs();
        x.expect(21, 0, 1, 0);
        x.expect(21, 1998, 1999, 0);
        check.due("16: until all are gone", x.minutesToAll(), 2005);
        x.pass(500);
        check.due("16: 500 fewer", x.minutesToAll(), 1505);
        for (int i = 0; i < 10; i++) {
            x.expect(41, 0, 1999, 0);
        }
        check.due("16: the last of 12", x.minutesToAll(), 1505 + 50);
    }

    private static void minutesOf3000() {
        check.due("16: 3000", oneADay(3, 1326).minutesToAll(), 3000);
        check.due("16: 2999", oneADay(3, 1327).minutesToAll(), 2999);
        check.due("16: NONE if that would be more than 3000", oneADay(3, 1325).minutesToAll(), NONE);
        check.due("16: NONE if its pushback has begun and it is not gone", oneADay(3, 1321).minutesToAll(), NONE);
    }

    private static void minutesBeyondTheLimitOfPass() {
        StandTugs x = new StandTugs();
        x.setCurfew(0, 1439);
        Scenes.passTo(x, 10000);
        x.expect(21, 0, 9, 0);
        check.due("16: the limit of pass does not matter", x.minutesToAll(), 7 * 1440 - 1 + 6 - 10000);
        x.expect(41, 0, 9, 0);
        check.due("16: one a day", x.minutesToAll(), 8 * 1440 - 1 + 6 - 10000);
        x.expect(41, 0, 9, 0);
        check.due("16: one a day, the third is gone in 2965", x.minutesToAll(), 9 * 1440 - 1 + 6 - 10000);
        x.expect(41, 0, 9, 0);
        check.due("16: one a day, the fourth takes too long", x.minutesToAll(), NONE);
    }

    private static void minutesForEver() {
        StandTugs x = new StandTugs();
        x.setStrength(0, 2);
        x.expect(23, 0, 9, 0);
        check.due("16: too heavy for ever", x.minutesToAll(), NONE);
        x.setStrength(0, 3);
        x.setCurfew(0, 1440);
        check.due("16: a curfew for ever", x.minutesToAll(), NONE);
        x.setCurfew(0, 1439);
        check.due("16: one minute a day", x.minutesToAll(), 1439 + 6);
    }

    private static void tugForEachNumberOfTugs() {
        for (int tugs = 1; tugs <= 3; tugs++) {
            StandTugs x = new StandTugs();
            x.begin(1, tugs);
            check.due("17: without aircraft, with " + tugs, x.delaysWithTug(1), tugs == 3 ? NONE : 0);
            for (int i = 0; i < 6; i++) {
                x.expect(41, 0, 9, 0);
            }
            int due = tugs == 1 ? 2 * (5 + 10) : tugs == 2 ? 3 * 5 : NONE;
            check.due("17: NONE if there are 3 tugs, with " + tugs, x.delaysWithTug(1), due);
            x.pass(100);
            int lived = tugs == 1 ? 5 + 10 + 15 + 20 + 25 : tugs == 2 ? 2 * (5 + 10) : NONE;
            check.due("17: when all are gone, with " + tugs, x.delaysWithTug(3), lived);
        }
    }

    private static void tugOfEachStrength() {
        for (int weight = 1; weight <= 3; weight++) {
            StandTugs x = new StandTugs();
            for (int i = 0; i < 4; i++) {
                x.expect(40 + weight, 0, 9, 0);
            }
            for (int strength = 1; strength <= 3; strength++) {
                check.due("17: one more tug of strength " + strength + " for four of weight " + weight,
                        x.delaysWithTug(strength), strength >= weight ? 5 + 5 : 5 + 10 + 15);
            }
            for (int wrong : Scenes.outside(1, 3)) {
                check.illegal(x, "17: strength out of range, " + wrong, () -> x.delaysWithTug(wrong));
            }
            x.begin(1, 3);
            for (int wrong : Scenes.outside(1, 3)) {
                check.illegal(x, "17: strength out of range, with 3 tugs, " + wrong, () -> x.delaysWithTug(wrong));
            }
        }
    }

    private static void tugWithin3000Minutes() {
        int sum = 2 * 1439 + 2 * 2879 + 4319;
        check.due("17: in 3000 minutes", oneADay(5, 1326).delaysWithTug(1), sum);
        check.due("17: in 2999 minutes", oneADay(5, 1327).delaysWithTug(1), sum);
        check.due("17: NONE if that would take more than 3000 minutes", oneADay(5, 1325).delaysWithTug(1), NONE);
        check.due("17: with one it would take longer", oneADay(5, 1326).minutesToAll(), NONE);
    }

    private static void tugThatIsTooWeak() {
        for (int strength = 1; strength <= 3; strength++) {
            StandTugs x = new StandTugs();
            x.setStrength(0, 1);
            x.expect(42, 0, 9, 0);
            check.due("17: NONE if it is too weak: " + strength, x.delaysWithTug(strength), strength == 1 ? NONE : 0);
        }
    }

    private static void tugIsOnlyAsked() {
        StandTugs x = oneADay(3, 100);
        StandTugs y = oneADay(3, 100);
        x.delaysWithTug(1);
        x.bestStand();
        x.delayOf(2);
        x.minutesToAll();
        x.used();
        x.why(0);
        check.due("17: the tugs", x.value(1), 1);
        check.outside(x, "17: no second one", () -> x.tug(1, 0));
        check.holds("15 to 19: asking changes nothing", Scenes.whole(x).equals(Scenes.whole(y)));
    }

    private static void standOfAllFour() {
        for (int stands = 1; stands <= 6; stands++) {
            StandTugs x = new StandTugs();
            x.begin(stands, 1);
            x.expect(41, 0, 9, 100);
            for (int i = 0; i < stands; i++) {
                check.due("18: the lowest that is not 4 yet, " + i + " of " + stands, x.bestStand(), i);
                x.setSpan(i, 4);
            }
            check.due("18: NONE if all spans are 4, " + stands, x.bestStand(), NONE);
            x.setSpan(stands - 1, 3);
            check.due("18: all but the last one", x.bestStand(), stands - 1);
        }
    }

    private static void standByOne() {
        for (int span = 1; span <= 3; span++) {
            StandTugs x = new StandTugs();
            x.begin(2, 1);
            x.setSpan(0, 1);
            x.setSpan(1, span);
            x.expect(41, 0, 9, 100);
            x.expect(11, 0, 9, 0);
            check.due("18: whose span greater by 1, not by more: " + span, x.bestStand(), span == 3 ? 1 : 0);
        }
        StandTugs y = new StandTugs();
        y.begin(3, 1);
        y.setSpan(0, 1);
        y.setSpan(1, 3);
        y.expect(41, 0, 9, 51);
        y.expect(21, 0, 9, 50);
        y.expect(21, 0, 9, 50);
        check.due("18: the fewest buses, 2 for one of 50 rather than 4 for the one of 51", y.bestStand(), 1);
        y.setSpan(2, 1);
        check.due("18: 4 for the one of 51, as many as 2 for each of the others", y.bestStand(), 0);
    }

    private static void standOfEqualOnes() {
        StandTugs x = new StandTugs();
        check.due("18: of several the lowest one, without aircraft", x.bestStand(), 0);
        x.expect(31, 0, 9, 50);
        check.due("18: of several the lowest one", x.bestStand(), 0);
        x.setSpan(0, 1);
        check.due("18: of two the lower one", x.bestStand(), 1);
        x.pass(20);
        check.due("18: of several the lowest one, when all are gone", x.bestStand(), 0);
        StandTugs y = new StandTugs();
        y.begin(6, 1);
        for (int i = 0; i < 5; i++) {
            y.setSpan(i, 1);
        }
        y.expect(31, 0, 9, 50);
        check.due("18: the last one", y.bestStand(), 5);
    }

    private static void standWithin3000Minutes() {
        check.due("18: each takes 3000 minutes", oneADay(3, 1326).bestStand(), 0);
        check.due("18: NONE if it would take more than 3000 minutes with each of them", oneADay(3, 1325).bestStand(),
                NONE);
        StandTugs x = new StandTugs();
        x.setCurfew(0, 1440);
        x.expect(11, 0, 9, 0);
        check.due("18: NONE for ever", x.bestStand(), NONE);
    }

    private static void standThatIsLeftOut() {
        // On stands next to each other they would not be pushed back in one minute, and the next minute is a day later.
        StandTugs x = new StandTugs();
        x.begin(2, 2);
        x.setSpan(0, 2);
        x.setSpan(1, 2);
        x.setCurfew(1, 1440);
        x.expect(21, 0, 1999, 400);
        x.expect(31, 0, 1999, 400);
        check.due("18: one with which it takes more is left out, both of them", x.bestStand(), NONE);
        x.undo();
        x.undo();
        x.setSpan(1, 4);
        x.expect(21, 0, 1999, 400);
        x.expect(41, 0, 1999, 400);
        check.due("18: one stand that can be greater, too late", x.bestStand(), NONE);
        x.undo();
        x.undo();
        x.begin(3, 2);
        x.setSpan(2, 1);
        x.expect(21, 0, 1999, 0);
        x.expect(31, 0, 1999, 400);
        check.due("18: one with which it takes more is left out, though it needs fewer buses", x.bestStand(), 2);
    }

    private static void shareAtMinuteZero() {
        StandTugs x = new StandTugs();
        check.due("19: 0.0 at minute 0", x.used(), 0.0);
        x.expect(21, 0, 9, 0);
        check.due("19: 0.0 at minute 0, with one that comes", x.used(), 0.0);
        x.pass(9);
        x.begin(3, 1);
        check.due("19: 0.0 at minute 0, begun anew", x.used(), 0.0);
        x.undo();
        check.due("19: 9 of 27", x.used(), 9.0 / 27.0);
        x.parse();
        check.due("19: 0.0 at minute 0, after parse", x.used(), 0.0);
    }

    private static void shareOfNothingAndAll() {
        for (int stands = 1; stands <= 6; stands++) {
            for (int had = 0; had <= stands; had++) {
                StandTugs x = new StandTugs();
                x.begin(stands, 1);
                for (int i = 0; i < had; i++) {
                    x.expect(21, 0, 900, 0);
                }
                x.pass(1);
                check.due("19: in the first minute " + had + " of " + stands, x.used(), (double) had / (double) stands);
                x.pass(6);
                check.due("19: in 7 minutes " + had + " of " + stands, x.used(),
                        (double) (7 * had) / (double) (7 * stands));
            }
        }
    }

    private static void shareToTheLastMinute() {
        StandTugs x = new StandTugs();
        x.begin(6, 1);
        x.expect(21, 0, 1999, 0);
        Scenes.passTo(x, 10000);
        check.due("19: 2004 of 60000 minutes", x.used(), 2004.0 / 60000.0);
        StandTugs y = new StandTugs();
        y.begin(6, 1);
        y.setCurfew(0, 1440);
        for (int i = 0; i < 6; i++) {
            y.expect(21, 0, 9, 0);
        }
        Scenes.passTo(y, 10000);
        check.due("19: all of 60000 minutes", y.used(), 1.0);
    }
}
