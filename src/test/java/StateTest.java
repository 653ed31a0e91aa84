/** Promises 23 and 24: undo and the digest. */
public final class StateTest {
    private static final Check check = new Check();

    public static void main(String[] args) {
        undoOfAll();
        undoOfMany();
        fourAreKept();
        textIsNotSaved();
        notUndoable();
        digestByItsParts();
        digestOfNew();
        check.end();
    }

    private static StandTugs busy() {
        StandTugs x = new StandTugs();
        x.begin(3, 2);
        x.setCurfew(5, 8);
        x.setSpan(1, 3);
        x.setStrength(1, 1);
        x.expect(32, 0, 30, 60);
        x.expect(31, 1, 100, 110);
        x.expect(21, 2, 7, 50);
        x.pass(34);
        return x;
    }

    private interface Change {
        void on(StandTugs x);
    }

    /** With four states saved ahead of it, a call and its undo leave three saved ones. */
    private static void undone(String call, Change change) {
        StandTugs x = busy();
        StandTugs same = busy();
        same.setSpan(0, 2);
        same.undo();
        long before = same.digest();
        change.on(x);
        check.due("23: undo() of " + call, x.undo(), 3);
        check.due("23: the state after undo() of " + call, x.digest(), before);
    }

    private static void undoOfAll() {
        undone("begin", x -> x.begin(6, 1));
        undone("setSpan", x -> x.setSpan(1, 1));
        undone("setSpan, the same", x -> x.setSpan(1, 3));
        undone("setStrength", x -> x.setStrength(0, 1));
        undone("setStrength, the same", x -> x.setStrength(0, 3));
        undone("setCurfew", x -> x.setCurfew(1, 0));
        undone("setCurfew, the same", x -> x.setCurfew(5, 8));
        undone("expect", x -> x.expect(11, 0, 1, 0));
        undone("setLeaves", x -> x.setLeaves(1, 500));
        undone("setLeaves, the same", x -> x.setLeaves(1, 100));
        undone("pass", x -> x.pass(1));
        undone("pass far", x -> x.pass(500));
        undone("parse", x -> x.parse());
    }

    private static void undoOfMany() {
        StandTugs x = busy();
        long before = x.digest();
        x.begin(6, 3);
        for (char sign : "430,9p400;229,1999;115,6p0;".toCharArray()) {
            x.append(sign);
        }
        x.parse();
        x.clearText();
        x.pass(500);
        x.setSpan(0, 1);
        check.due("23: undo() of setSpan", x.undo(), 3);
        check.due("23: undo() of pass", x.undo(), 2);
        check.due("23: undo() of parse", x.undo(), 1);
        check.due("23: undo() of begin", x.undo(), 0);
        StandTugs same = busy();
        for (int i = 0; i < 4; i++) {
            same.setSpan(1, 3);
        }
        for (int i = 0; i < 4; i++) {
            same.undo();
        }
        check.due("23: the state before all", x.digest(), same.digest());
        check.holds("23: but for the saved ones", x.digest() != before);
    }

    private static void fourAreKept() {
        StandTugs x = new StandTugs();
        check.unfit(x, "23: undo() of nothing", () -> x.undo());
        for (int i = 1; i <= 6; i++) {
            x.pass(i);
        }
        int[] minutes = {15, 10, 6, 3};
        for (int i = 0; i < 4; i++) {
            check.due("23: undo()", x.undo(), 3 - i);
            check.due("23: the minute", x.value(3), minutes[i]);
        }
        check.unfit(x, "23: undo() of a fifth", () -> x.undo());
        x.pass(4);
        x.pass(5);
        check.due("23: undo() of the second", x.undo(), 1);
        x.pass(6);
        check.due("23: undo() of the third", x.undo(), 1);
        check.due("23: the minute", x.value(3), 7);
    }

    private static void textIsNotSaved() {
        StandTugs x = new StandTugs();
        x.append('1');
        x.pass(1);
        x.append('1');
        x.undo();
        check.due("23: the text stays", x.append('0'), 3);
        x.pass(1);
        x.clearText();
        x.undo();
        check.due("23: the text stays empty", x.clearText(), 0);
    }

    private static void notUndoable() {
        StandTugs x = new StandTugs();
        for (int i = 0; i < 5; i++) {
            x.expect(21, i, 10, 60);
        }
        for (int i = 0; i < 4; i++) {
            x.undo();
        }
        x.aircraft(0, 0);
        x.stand(0, 0);
        x.tug(0, 0);
        x.value(0);
        x.why(0);
        x.delayOf(0);
        x.minutesToAll();
        x.delaysWithTug(1);
        x.bestStand();
        x.used();
        x.append('1');
        x.clearText();
        x.append('5');
        x.parse();
        x.digest();
        check.unfit(x, "23: what is not undoable saves nothing", () -> x.undo());
    }

    private static long byParts(StandTugs x, int textLength, int saved) {
        long hash = 3541;
        hash = 31 * hash + textLength;
        for (int what = 0; what < 16; what++) {
            hash = 31 * hash + x.value(what);
        }
        for (int i = 0; i < 4 * x.value(0); i++) {
            hash = 31 * hash + x.stand(i / 4, i % 4);
        }
        for (int i = 0; i < 5 * x.value(1); i++) {
            hash = 31 * hash + x.tug(i / 5, i % 5);
        }
        for (int i = 0; i < x.value(2); i++) {
            for (int what = 0; what < 10; what++) {
                hash = 31 * hash + x.aircraft(i, what);
            }
            hash = 31 * hash + x.why(i);
        }
        for (int i = 0; i < 3 * x.value(15); i++) {
            hash = 31 * hash + x.event(i / 3, i % 3);
        }
        hash = 31 * hash + x.minutesToAll();
        return 31 * hash + saved;
    }

    private static void digestByItsParts() {
        StandTugs x = busy();
        check.due("24: digest()", x.digest(), byParts(x, 0, 4));
        x.undo();
        check.due("24: fewer saved", x.digest(), byParts(x, 0, 3));
        x.append('1');
        x.append('1');
        check.due("24: a text", x.digest(), byParts(x, 2, 3));
        x.pass(500);
        check.due("24: all are gone", x.digest(), byParts(x, 2, 4));
        StandTugs y = new StandTugs();
        y.setCurfew(0, 1440);
        for (int i = 0; i < 11; i++) {
            y.expect(43, i, 900, 9);
        }
        y.pass(500);
        y.setCurfew(0, 0);
        y.pass(500);
        check.due("24: a full log", y.value(15), 30);
        check.due("24: digest() of many", y.digest(), byParts(y, 0, 4));
        y.setStrength(0, 1);
        y.expect(11, 0, 1, 0);
        check.due("24: digest()", y.digest(), byParts(y, 0, 4));
    }

    private static void digestOfNew() {
        StandTugs x = new StandTugs();
        check.due("24: digest() of a new object", x.digest(), byParts(x, 0, 0));
        check.due("24: a new object is like another", x.digest(), new StandTugs().digest());
    }
}
