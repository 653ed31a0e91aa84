/** Promises 15 to 19: what would be, and the share of minutes in which stands were had. */
public final class QuestionsTest {
    private static final Check check = new Check();

    public static void main(String[] args) {
        delayOf();
        delayOfLimit();
        minutesToAll();
        minutesToAllLimit();
        delaysWithTug();
        bestStand();
        bestStandLimits();
        used();
        questionsChangeNothing();
        check.end();
    }

    /** Two aircraft that want to leave at 10, on stands apart, with one tug. */
    private static StandTugs two() {
        StandTugs x = new StandTugs();
        x.setSpan(1, 1);
        x.expect(23, 0, 10, 0);
        x.expect(21, 0, 10, 0);
        return x;
    }

    private static void delayOf() {
        StandTugs x = two();
        check.due("15: the first", x.delayOf(0), 0);
        check.due("15: the second", x.delayOf(1), 5);
        x.pass(16);
        check.due("15: pushed back already", x.delayOf(1), 5);
        x.pass(10);
        check.due("15: gone", x.delayOf(1), 5);
        check.due("15: gone first", x.delayOf(0), 0);
        for (int number : new int[] {-1, 2, 12, Integer.MAX_VALUE, Integer.MIN_VALUE}) {
            check.outside(x, "15: delayOf(" + number + ")", () -> x.delayOf(number));
        }
        StandTugs y = two();
        y.setStrength(0, 2);
        check.due("15: too heavy for ever", y.delayOf(0), StandTugs.NONE);
        check.due("15: it does not hold up the other", y.delayOf(1), 0);
        y.pass(100);
        y.setStrength(0, 3);
        check.due("15: it goes in this minute", y.delayOf(0), 90);
    }

    /**
     * Aircraft on bays that want to leave at 1999, and one tug; only the first minute of each day is no curfew, so that
     * the pushback of the first one begins at 2880, that of the next one at 4320, and each is gone 5 minutes later.
     */
    private static StandTugs slow(int aircraft, int minute) {
        StandTugs x = new StandTugs();
        for (int i = 0; i < aircraft; i++) {
            x.expect(41, 0, 1999, 50);
        }
        x.setCurfew(1, 1440);
        for (int left = minute; left > 0; left -= 500) {
            x.pass(Math.min(left, 500));
        }
        return x;
    }

    private static void delayOfLimit() {
        check.due("15: in the 3000th minute", slow(2, 1321).delayOf(1), 2321);
        check.due("15: in the 3001st minute", slow(2, 1320).delayOf(1), StandTugs.NONE);
        check.due("15: sooner", slow(2, 1320).delayOf(0), 881);
        StandTugs x = new StandTugs();
        x.expect(21, 0, 2, 0);
        x.setCurfew(0, 1440);
        check.due("15: a curfew for ever", x.delayOf(0), StandTugs.NONE);
        x.setCurfew(0, 1439);
        check.due("15: one minute a day", x.delayOf(0), 1437);
        StandTugs y = new StandTugs();
        for (int i = 0; i < 20; i++) {
            y.pass(500);
        }
        y.expect(21, 0, 10, 0);
        y.setCurfew(0, 1400);
        check.due("15: beyond the minute 10000", y.delayOf(0), 6 * 1440 + 1400 - 10);
        check.due("16: beyond the minute 10000", y.minutesToAll(), 6 * 1440 + 1400 + 6 - 10000);
    }

    private static void minutesToAll() {
        StandTugs x = new StandTugs();
        check.due("16: without aircraft", x.minutesToAll(), 0);
        x.pass(9);
        check.due("16: without aircraft, later", x.minutesToAll(), 0);
        StandTugs y = two();
        check.due("16: of two", y.minutesToAll(), 21);
        y.pass(12);
        check.due("16: of two, later", y.minutesToAll(), 9);
        y.pass(8);
        check.due("16: of two, at last", y.minutesToAll(), 1);
        y.pass(1);
        check.due("16: all are gone", y.minutesToAll(), 0);
        y.expect(11, 1000, 1999, 0);
        check.due("16: a further one", y.minutesToAll(), 2005 - 21);
    }

    private static void minutesToAllLimit() {
        check.due("16: 3000", slow(2, 1326).minutesToAll(), 3000);
        check.due("16: 3001", slow(2, 1325).minutesToAll(), StandTugs.NONE);
        StandTugs x = two();
        x.setStrength(0, 2);
        check.due("16: never", x.minutesToAll(), StandTugs.NONE);
    }

    private static void delaysWithTug() {
        StandTugs x = two();
        check.due("17: no delays", x.delaysWithTug(3), 0);
        check.due("17: a weak one helps the light one", x.delaysWithTug(1), 0);
        x.setStrength(0, 2);
        check.due("17: too weak for ever", x.delaysWithTug(2), StandTugs.NONE);
        check.due("17: strong enough", x.delaysWithTug(3), 0);
        StandTugs y = new StandTugs();
        check.due("17: without aircraft", y.delaysWithTug(1), 0);
        for (int strength : new int[] {0, -1, 4, Integer.MAX_VALUE, Integer.MIN_VALUE}) {
            check.illegal(y, "17: delaysWithTug(" + strength + ")", () -> y.delaysWithTug(strength));
        }
        y.begin(3, 3);
        check.due("17: three tugs", y.delaysWithTug(1), StandTugs.NONE);
        check.illegal(y, "17: three tugs, out of range", () -> y.delaysWithTug(4));
        StandTugs z = two();
        z.pass(40);
        check.due("17: all are gone", z.delaysWithTug(3), 5);
        z.expect(11, 0, 10, 0);
        check.due("17: the delays so far count", z.delaysWithTug(3), 35);
        StandTugs w = new StandTugs();
        for (int i = 0; i < 3; i++) {
            w.expect(43, 0, 10, 0);
        }
        check.due("17: a strong one", w.delaysWithTug(3), 5);
        check.due("17: a weak one", w.delaysWithTug(2), 15);
        StandTugs tow = new StandTugs();
        tow.begin(1, 2);
        tow.setStrength(1, 1);
        tow.expect(21, 0, 10, 0);
        tow.expect(21, 1, 46, 60);
        tow.expect(41, 1, 16, 60);
        check.due("17: a third one", tow.delaysWithTug(1), 0);
        check.due("17: in 3000 minutes", slow(3, 1326).delaysWithTug(1), 881 + 881 + 2321);
        check.due("17: in 3001 minutes", slow(3, 1325).delaysWithTug(1), StandTugs.NONE);
    }

    private static void bestStand() {
        StandTugs x = new StandTugs();
        check.due("18: without aircraft the lowest", x.bestStand(), 0);
        x.setSpan(0, 4);
        check.due("18: one of 4 cannot be greater", x.bestStand(), 1);
        x.setSpan(1, 4);
        x.setSpan(2, 4);
        check.due("18: all are 4", x.bestStand(), StandTugs.NONE);
        StandTugs y = new StandTugs();
        y.setSpan(1, 3);
        y.setSpan(2, 1);
        y.expect(41, 0, 20, 60);
        y.expect(21, 0, 20, 50);
        y.expect(21, 0, 20, 10);
        check.due("18: 2 buses rather than 4", y.bestStand(), 1);
        y.setSpan(1, 2);
        check.due("18: the lowest of equal ones", y.bestStand(), 0);
        StandTugs z = new StandTugs();
        z.setSpan(0, 1);
        z.setSpan(1, 1);
        z.setSpan(2, 2);
        z.expect(31, 0, 20, 400);
        check.due("18: greater by 1 alone", z.bestStand(), 2);
        z.pass(1);
        check.due("18: it has its buses, and a tow would come too late", z.bestStand(), 0);
        z.setLeaves(0, 100);
        check.due("18: a tow spares buses", z.bestStand(), 2);
    }

    /** Greater by 1, the stand 0 or 1 takes the large aircraft next to the other one, which costs it a day. */
    private static void bestStandLimits() {
        StandTugs x = new StandTugs();
        x.begin(3, 2);
        x.setSpan(2, 1);
        x.setCurfew(1, 1440);
        x.expect(21, 0, 1999, 0);
        x.expect(31, 0, 1999, 400);
        check.due("18: what takes too long is left out", x.bestStand(), 2);
        StandTugs y = slow(2, 1325);
        check.due("18: each takes too long", y.bestStand(), StandTugs.NONE);
        y.pass(1);
        check.due("18: each takes 3000", y.bestStand(), 0);
    }

    private static void used() {
        StandTugs x = new StandTugs();
        check.due("19: at minute 0", x.used(), 0.0);
        x.pass(3);
        check.due("19: without aircraft", x.used(), 0.0);
        x.expect(21, 5, 10, 0);
        x.expect(21, 7, 100, 0);
        x.pass(4);
        check.due("19: two of 21", x.used(), 2.0 / 21.0);
        x.pass(13);
        check.due("19: 23 of 60", x.used(), 23.0 / 60.0);
        x.begin(6, 1);
        check.due("19: begun anew", x.used(), 0.0);
        for (int i = 0; i < 6; i++) {
            x.expect(21, 0, 100, 0);
        }
        x.pass(2);
        check.due("19: all of six", x.used(), 1.0);
        x.begin(1, 1);
        x.expect(21, 0, 1999, 0);
        x.pass(7);
        check.due("19: all", x.used(), 1.0);
    }

    private static void questionsChangeNothing() {
        StandTugs x = slow(5, 2879);
        x.append('1');
        x.expect(21, 0, 1999, 30);
        long before = x.digest();
        for (int i = 0; i < 6; i++) {
            x.delayOf(i);
        }
        x.minutesToAll();
        x.delaysWithTug(2);
        x.bestStand();
        x.used();
        x.why(0);
        check.due("15 to 19: nothing changes", x.digest(), before);
        check.due("15 to 19: nothing is saved", x.undo(), 3);
    }
}
