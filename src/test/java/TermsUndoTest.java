import java.util.ArrayList;
import java.util.List;

/** The document's term "Undo" and promises 23 and 24, a sentence each; every label tells its sentence. */
public final class TermsUndoTest {
    private static final Check check = new Check();

    public static void main(String[] args) {
        eachUndoableCallSaves();
        evenIfTheCallChangesNothing();
        noOtherCallSaves();
        atMostFourStates();
        theOldestIsDroppedFirst();
        savedAndUndoneInTurns();
        nothingIsSaved();
        undoIsNotUndoable();
        everythingExceptTheText();
        eachPartIsRestored();
        aSavedStateStaysAsItWas();
        logsAreRestored();
        minutesOfComingAreRestored();
        digestOfSavedStates();
        digestOfTheText();
        digestWithNone();
        digestOfTheLog();
        digestIsTheSameAgain();
        fiveHundredAndTwelveCalls();
        check.end();
    }

    private interface Call {
        void on(StandTugs x);
    }

    /** At minute 45: 0 is gone, 1 pushed back, 2 on a stand, 3 towed, 4 on a bay, 5 expected; 4 states saved. */
    private static StandTugs busy() {
        StandTugs x = new StandTugs();
        x.begin(3, 2);
        x.setSpan(0, 3);
        x.setStrength(1, 2);
        x.setCurfew(60, 70);
        x.expect(32, 0, 30, 0);
        x.expect(21, 1, 44, 120);
        x.expect(22, 2, 45, 70);
        x.expect(33, 3, 300, 400);
        x.expect(43, 4, 500, 49);
        x.expect(11, 60, 61, 50);
        x.pass(35);
        x.pass(10);
        return x;
    }

    private static void saves(String name, Call call) {
        StandTugs x = busy();
        StandTugs y = busy();
        y.setSpan(0, 3);
        y.undo();
        call.on(x);
        check.due("saves the state from before: " + name, x.undo(), 3);
        check.holds("restores the state from before: " + name, Scenes.whole(x).equals(Scenes.whole(y)));
    }

    private static void eachUndoableCallSaves() {
        saves("begin", x -> x.begin(6, 3));
        saves("begin, fewer", x -> x.begin(1, 1));
        saves("setSpan", x -> x.setSpan(0, 4));
        saves("setStrength", x -> x.setStrength(0, 1));
        saves("setCurfew", x -> x.setCurfew(45, 99));
        saves("expect", x -> x.expect(11, 0, 1, 0));
        saves("setLeaves", x -> x.setLeaves(4, 46));
        saves("pass, least", x -> x.pass(1));
        saves("pass, greatest", x -> x.pass(500));
        saves("parse", x -> x.parse());
    }

    private static void same(String name, StandTugs x, StandTugs y, Call call) {
        call.on(x);
        check.due("even if the call changes nothing: " + name, x.undo(), 0);
        check.due("and it was nothing: " + name, x.digest(), y.digest());
        check.unfit(x, "and no more: " + name, () -> x.undo());
    }

    private static void evenIfTheCallChangesNothing() {
        same("begin", new StandTugs(), new StandTugs(), x -> x.begin(3, 1));
        same("setSpan", new StandTugs(), new StandTugs(), x -> x.setSpan(2, 2));
        same("setStrength", new StandTugs(), new StandTugs(), x -> x.setStrength(0, 3));
        same("setCurfew", new StandTugs(), new StandTugs(), x -> x.setCurfew(0, 0));
        same("parse", new StandTugs(), new StandTugs(), x -> x.parse());
        StandTugs x = new StandTugs();
        x.expect(11, 0, 9, 0);
        check.due("even if the call changes nothing: setLeaves", x.setLeaves(0, 9), 9);
        check.due("it is saved", x.undo(), 1);
    }

    private static void savesNothing(String name, Call call) {
        for (int saved : new int[] {4, 2, 0}) {
            StandTugs x = busySaved(saved);
            call.on(x);
            StandTugs y = busySaved(saved);
            check.holds("not undoable, with " + saved + " saved: " + name, Scenes.whole(x).equals(Scenes.whole(y)));
        }
    }

    private static StandTugs busySaved(int saved) {
        StandTugs x = saved == 4 ? busy() : new StandTugs();
        if (saved == 2) {
            x.expect(21, 0, 9, 0);
            x.pass(11);
        }
        Scenes.write(x, "110,1;5");
        return x;
    }

    private static void noOtherCallSaves() {
        savesNothing("stand", x -> x.stand(0, 1));
        savesNothing("tug", x -> x.tug(0, 1));
        savesNothing("value", x -> x.value(3));
        savesNothing("minutesToAll", x -> x.minutesToAll());
        savesNothing("delaysWithTug", x -> x.delaysWithTug(2));
        savesNothing("bestStand", x -> x.bestStand());
        savesNothing("used", x -> x.used());
        savesNothing("digest", x -> x.digest());
        savesNothing("parse with a syntax error", x -> x.parse());
        savesNothing("append and clearText", x -> {
            x.append(';');
            Scenes.write(x, "110,1;5");
        });
        StandTugs x = busy();
        StandTugs y = busy();
        for (int i = 0; i < 6; i++) {
            y.aircraft(i, 5);
            y.why(i);
            y.delayOf(i);
            y.event(i, 0);
        }
        check.holds("not undoable: aircraft, why, delayOf, event", Scenes.whole(x).equals(Scenes.whole(y)));
    }

    private static void atMostFourStates() {
        for (int calls = 0; calls <= 10; calls++) {
            StandTugs x = new StandTugs();
            for (int i = 1; i <= calls; i++) {
                x.pass(i);
            }
            int saved = Math.min(4, calls);
            for (int i = 1; i <= saved; i++) {
                check.due("at most 4 states are saved, of " + calls, x.undo(), saved - i);
                int left = calls - i;
                check.due("the most recently saved state, of " + calls, x.value(3), left * (left + 1) / 2);
            }
            check.unfit(x, "no saved state, of " + calls, () -> x.undo());
        }
    }

    private static void theOldestIsDroppedFirst() {
        StandTugs x = new StandTugs();
        x.begin(4, 2);
        x.setSpan(3, 4);
        x.setSpan(2, 4);
        x.setSpan(1, 4);
        check.due("a fourth one drops none", x.undo(), 3);
        x.setSpan(1, 4);
        x.setSpan(0, 4);
        for (int i = 0; i < 4; i++) {
            check.due("the stands, as begin is not undone", x.value(0), 4);
            check.due("one state fewer", x.undo(), 3 - i);
            check.due("a span is as it was", x.stand(i, 0), 2);
        }
        check.unfit(x, "the state from before begin is dropped", () -> x.undo());
        check.due("so 4 stands stay", x.value(0), 4);
    }

    private static void savedAndUndoneInTurns() {
        StandTugs x = new StandTugs();
        List<Integer> saved = new ArrayList<>();
        int minute = 0;
        // Each number is so many passes, and then so many undos, again and again.
        int[] turns = {1, 1, 3, 1, 4, 2, 5, 4, 6, 1, 1, 2, 2, 1, 9, 3, 3, 4, 4, 4, 7, 2, 1, 1, 1, 1, 4, 4};
        for (int turn = 0; turn < turns.length; turn++) {
            for (int i = 0; i < turns[turn]; i++) {
                if (turn % 2 == 0) {
                    saved.add(minute);
                    if (saved.size() > 4) {
                        saved.remove(0);
                    }
                    x.pass(turn + 1);
                    minute += turn + 1;
                } else if (saved.isEmpty()) {
                    check.unfit(x, "no saved state in turn " + turn, () -> x.undo());
                } else {
                    minute = saved.remove(saved.size() - 1);
                    check.due("the saved states that remain in turn " + turn, x.undo(), saved.size());
                }
                check.due("the minute in turn " + turn, x.value(3), minute);
            }
        }
    }

    private static void nothingIsSaved() {
        StandTugs x = new StandTugs();
        check.unfit(x, "no saved state of a new object", () -> x.undo());
        x.append('1');
        x.clearText();
        check.unfit(x, "no saved state of the text", () -> x.undo());
        x.pass(1);
        check.due("one", x.undo(), 0);
        check.unfit(x, "no saved state again", () -> x.undo());
        check.unfit(x, "no saved state once more", () -> x.undo());
    }

    private static void undoIsNotUndoable() {
        StandTugs x = new StandTugs();
        x.pass(1);
        x.pass(2);
        x.pass(3);
        check.due("removes it from the saved states", x.undo(), 2);
        check.due("and saves none", x.undo(), 1);
        check.due("the minute", x.value(3), 1);
    }

    private static void everythingExceptTheText() {
        StandTugs x = new StandTugs();
        Scenes.write(x, "110,1;");
        check.due("one", x.parse(), 1);
        Scenes.write(x, "220,2;330,3");
        check.due("undone", x.undo(), 0);
        check.due("no aircraft", x.value(2), 0);
        check.due("the text stays, too early its end", x.parse(), -21);
        check.due("the text goes on", x.append(';'), 12);
        check.due("two", x.parse(), 2);
        x.clearText();
        check.due("undone again", x.undo(), 0);
        check.due("the text stays empty", x.append('1'), 1);
        for (int i = 2; i <= 90; i++) {
            x.append('1');
        }
        x.pass(1);
        x.undo();
        check.unfit(x, "the text stays full", () -> x.append('1'));
        check.due("90 bytes", x.clearText(), 90);
    }

    private static void eachPartIsRestored() {
        StandTugs x = busy();
        StandTugs y = busy();
        x.setSpan(2, 4);
        x.setStrength(0, 1);
        x.begin(1, 1);
        x.undo();
        check.due("the stands", x.value(0), 3);
        check.due("the tugs", x.value(1), 2);
        check.due("a strength from before begin", x.tug(0, 0), 1);
        x.undo();
        check.due("a strength", x.tug(0, 0), 3);
        check.due("a span from before that", x.stand(2, 0), 4);
        x.undo();
        check.due("a span", x.stand(2, 0), 2);
        for (int what = 0; what < 16; what++) {
            check.due("value(" + what + ")", x.value(what), y.value(what));
        }
        for (int i = 0; i < 6; i++) {
            for (int what = 0; what < 10; what++) {
                check.due("aircraft(" + i + ", " + what + ")", x.aircraft(i, what), y.aircraft(i, what));
            }
        }
        x.pass(100);
        y.pass(100);
        for (int what = 0; what < 16; what++) {
            check.due("it goes on as it would have: value(" + what + ")", x.value(what), y.value(what));
        }
    }

    private static void aSavedStateStaysAsItWas() {
        StandTugs x = busy();
        StandTugs y = busy();
        x.pass(500);
        x.expect(11, 545, 546, 9);
        x.pass(100);
        x.setLeaves(x.expect(43, 700, 701, 400), 900);
        x.undo();
        x.undo();
        x.undo();
        check.due("the last one that is saved", x.undo(), 0);
        check.due("no more than 4", x.value(3), 545);
        y.pass(500);
        for (int i = 0; i < 4; i++) {
            y.setSpan(0, 3);
        }
        for (int i = 0; i < 4; i++) {
            y.undo();
        }
        check.due("as it was", x.digest(), y.digest());
    }

    /** Of 12 on bays that come in the minutes 0 to 11, and of which one is pushed back every 10 minutes from 100 on. */
    private static void logHolds(String label, StandTugs x, int total) {
        int kept = Math.min(30, total);
        check.due(label + ", events", x.value(15), kept);
        for (int i = 0; i < kept; i++) {
            int number = total - 1 - i;
            int after = number - 12;
            int[] due = number < 12 ? new int[] {2, number, number}
                    : new int[] {3 + after % 2, 100 + 10 * (after / 2) + 5 * (after % 2), after / 2};
            for (int what = 0; what < 3; what++) {
                check.due(label + ", event(" + i + ", " + what + ")", x.event(i, what), due[what]);
            }
        }
    }

    private static void logsAreRestored() {
        StandTugs x = new StandTugs();
        for (int i = 0; i < 12; i++) {
            x.expect(41, i, 100 + 10 * i, 0);
        }
        x.pass(12);
        x.pass(148);
        x.pass(26);
        x.pass(14);
        logHolds("a log that has begun to drop events", x, 32);
        x.begin(6, 1);
        x.expect(21, 3, 9, 0);
        x.pass(500);
        check.due("another log", x.value(15), 3);
        x.undo();
        x.undo();
        x.undo();
        logHolds("a full log is restored", x, 32);
        x.pass(500);
        logHolds("it goes on", x, 36);
        x.undo();
        logHolds("and is restored again", x, 32);
        x.undo();
        logHolds("as it was just full", x, 30);
        check.unfit(x, "not what was dropped", () -> x.undo());
    }

    private static void minutesOfComingAreRestored() {
        StandTugs x = new StandTugs();
        x.expect(21, 7, 50, 0);
        x.begin(3, 1);
        x.expect(21, 900, 950, 0);
        x.undo();
        x.undo();
        check.due("the minute at which it comes", x.aircraft(0, 2), 7);
        check.due("so that it may leave then", x.setLeaves(0, 8), 50);
    }

    private static void digestOfSavedStates() {
        long[] digests = new long[6];
        StandTugs x = new StandTugs();
        for (int i = 0; i < 6; i++) {
            digests[i] = x.digest();
            x.setSpan(0, 2);
        }
        for (int i = 1; i < 6; i++) {
            check.due("24: the number of saved states is the last value, " + i, digests[i] - digests[0],
                    Math.min(4, i));
        }
    }

    private static void digestOfTheText() {
        StandTugs x = new StandTugs();
        long first = x.digest();
        x.append(0);
        long one = x.digest();
        x.append(127);
        check.due("24: the length of the text is the first value", x.digest() - one, one - first);
        x.clearText();
        check.due("24: of the empty text", x.digest(), first);
        long power = 1;
        for (int i = 0; i < 35; i++) {
            power *= 31;
        }
        check.due("24: with 35 values after it, the overflow ignored", one - first, power);
        for (int i = 0; i < 90; i++) {
            x.append(i);
        }
        check.due("24: of the full text", x.digest() - first, 90 * power);
    }

    private static void digestWithNone() {
        StandTugs x = new StandTugs();
        x.setCurfew(0, 1440);
        x.expect(11, 7, 9, 50);
        long[] told = {0, 3, 1, 1, 0, 0, 1440, 1, 0, 0, 0, 0, 0, 0, 0, 0, 0, 2, -1, 0, 0, 2, -1, 0, 0, 2, -1, 0, 0,
            3, -1, 0, 0, 0, 1, 1, 7, 9, 50, 0, -1, -1, 0, 0, 1, -1, 2};
        long hash = 3541;
        for (long one : told) {
            hash = 31 * hash + one;
        }
        check.due("24: NONE of minutesToAll() is a value too", x.digest(), hash);
    }

    private static void digestOfTheLog() {
        StandTugs x = new StandTugs();
        x.begin(1, 1);
        x.expect(11, 0, 3, 50);
        x.expect(22, 1, 5, 51);
        x.pass(9);
        // The length; value(); the stand; the tug; two aircraft with why(); the events, the latest first; minutes; saved.
        long[] told = {0, 1, 1, 2, 9, 0, 0, 0, 0, 0, 0, 1, 1, 3, 3, 4, 5, 2, -1, 0, 8, 3, 1, 5, 2, 0,
            1, 1, 0, 3, 50, 5, -1, 0, 8, 0, 3, 2, 2, 1, 5, 51, 4, -1, 3, 0, 4, 3,
            3, 8, 1, 4, 8, 0, 3, 3, 0, 2, 1, 1, 1, 0, 0, 5, 4};
        long hash = 3541;
        for (long one : told) {
            hash = 31 * hash + one;
        }
        check.due("24: for each event in the log, from the latest one", x.digest(), hash);
    }

    private static void digestIsTheSameAgain() {
        StandTugs x = busy();
        long first = x.digest();
        check.due("24: asking for it changes nothing", x.digest(), first);
        check.due("24: two that are alike", busy().digest(), first);
        x.pass(1);
        check.holds("24: another state, another hash", x.digest() != first);
    }

    private static void fiveHundredAndTwelveCalls() {
        StandTugs x = new StandTugs();
        x.begin(6, 2);
        x.setCurfew(0, 1440);
        for (int i = 0; i < 12; i++) {
            x.expect(41, 0, 9, 400);
        }
        for (int call = 15; call < 512; call++) {
            switch (call % 5) {
                case 0: check.due("in 512 calls, a stand", x.bestStand(), StandTugs.NONE); break;
                case 1: check.due("in 512 calls, a tug", x.delaysWithTug(3), StandTugs.NONE); break;
                case 2: check.due("in 512 calls, a delay", x.delayOf(11), StandTugs.NONE); break;
                case 3: check.due("in 512 calls, gone", x.pass(1), 0); break;
                default: check.holds("in 512 calls, a digest", x.digest() != 0); break;
            }
        }
        check.due("the 512th call: the minutes", x.value(3), 99);
    }
}
