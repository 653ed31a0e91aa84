import java.util.ArrayList;
import java.util.List;

/**
 * The document's term "Exceptions": each refused call throws the exception that is listed first, and changes nothing,
 * neither the state nor a saved one nor the text. Two objects are made alike; one of them gets the call.
 */
public final class RefusedTest {
    private static final Check check = new Check();
    private static final String OUTSIDE = "IndexOutOfBoundsException";
    private static final String ILLEGAL = "IllegalArgumentException";
    private static final String UNFIT = "IllegalStateException";

    private interface Made {
        StandTugs make();
    }

    private interface Call {
        void on(StandTugs x);
    }

    private static final class Refused {
        final String name;
        final String due;
        final Call call;

        Refused(String name, String due, Call call) {
            this.name = name;
            this.due = due;
            this.call = call;
        }
    }

    public static void main(String[] args) {
        in("a new object", () -> new StandTugs());
        in("one with a saved state", RefusedTest::oneSaved);
        in("a busy one", RefusedTest::busy);
        in("a full one", RefusedTest::full);
        in("one at its last minute but 3", () -> late(9997));
        in("one at its last minute", () -> late(10000));
        check.end();
    }

    private static StandTugs oneSaved() {
        StandTugs x = new StandTugs();
        x.expect(22, 3, 70, 100);
        x.append('1');
        return x;
    }

    /** 0 is gone, 1 is pushed back, 2 waits on a stand, 3 is towed, 4 is on a bay, 5 is expected; four states saved. */
    private static StandTugs busy() {
        StandTugs x = new StandTugs();
        x.begin(3, 2);
        x.setSpan(0, 3);
        x.setStrength(1, 2);
        x.expect(32, 0, 30, 0);
        x.expect(21, 1, 45, 120);
        x.expect(22, 2, 44, 70);
        x.expect(33, 3, 300, 400);
        x.expect(43, 4, 500, 49);
        x.expect(11, 60, 61, 50);
        Scenes.write(x, "110,1;4");
        x.pass(35);
        x.setLeaves(2, 45);
        x.setLeaves(1, 44);
        x.pass(10);
        for (int place = 0; place < 6; place++) {
            check.due("busy: one at each place", x.value(6 + place), 1);
        }
        return x;
    }

    /** 12 aircraft, 6 stands, 3 tugs, 30 events, 90 bytes, four saved states. */
    private static StandTugs full() {
        StandTugs x = new StandTugs();
        x.begin(6, 3);
        for (int i = 0; i < 12; i++) {
            x.expect(i < 6 ? 23 : 43, i, 50 + 10 * i, 10 * i);
        }
        Scenes.write(x, Scenes.repeated("110,1;", 6) + Scenes.repeated("220000,1;", 6));
        x.pass(141);
        x.setCurfew(150, 700);
        x.setSpan(5, 4);
        check.due("full: events", x.value(15), 30);
        check.due("full: pushed back", x.value(10), 1);
        return x;
    }

    private static StandTugs late(int minute) {
        StandTugs x = full();
        x.setCurfew(0, 0);
        Scenes.passTo(x, minute);
        return x;
    }

    private static void in(String state, Made made) {
        StandTugs sizes = made.make();
        List<Refused> all = new ArrayList<>();
        addSettings(all, sizes);
        addAircraft(all, sizes);
        addLeaves(all, sizes);
        addPass(all, sizes);
        addTold(all, sizes);
        addRest(all, made);
        for (Refused one : all) {
            refused(state, made, one);
        }
    }

    private static void refused(String state, Made made, Refused one) {
        StandTugs asked = made.make();
        String got = "nothing";
        try {
            one.call.on(asked);
        } catch (RuntimeException e) {
            got = e.getClass().getSimpleName();
        }
        String label = state + ", " + one.name;
        check.holds(label + " throws " + one.due + ", not " + got, got.equals(one.due));
        check.holds(label + " changes nothing", Scenes.whole(asked).equals(Scenes.whole(made.make())));
    }

    private static void add(List<Refused> all, String name, String due, Call call) {
        all.add(new Refused(name, due, call));
    }

    private static void addSettings(List<Refused> all, StandTugs sizes) {
        int stands = sizes.value(0);
        int tugs = sizes.value(1);
        for (int wrong : Scenes.outside(1, 6)) {
            add(all, "begin(" + wrong + ", 1)", ILLEGAL, x -> x.begin(wrong, 1));
            add(all, "begin(" + wrong + ", 0)", ILLEGAL, x -> x.begin(wrong, 0));
        }
        for (int wrong : Scenes.outside(1, 3)) {
            add(all, "begin(6, " + wrong + ")", ILLEGAL, x -> x.begin(6, wrong));
            add(all, "setStrength(0, " + wrong + ")", ILLEGAL, x -> x.setStrength(0, wrong));
            add(all, "setStrength(last, " + wrong + ")", ILLEGAL, x -> x.setStrength(tugs - 1, wrong));
        }
        for (int wrong : Scenes.outside(1, 4)) {
            add(all, "setSpan(0, " + wrong + ")", ILLEGAL, x -> x.setSpan(0, wrong));
            add(all, "setSpan(last, " + wrong + ")", ILLEGAL, x -> x.setSpan(stands - 1, wrong));
        }
        for (int wrong : Scenes.outside(0, stands - 1)) {
            add(all, "setSpan(" + wrong + ", 1)", OUTSIDE, x -> x.setSpan(wrong, 1));
            add(all, "setSpan(" + wrong + ", 0)", OUTSIDE, x -> x.setSpan(wrong, 0));
            add(all, "setSpan(" + wrong + ", 5)", OUTSIDE, x -> x.setSpan(wrong, 5));
        }
        for (int wrong : Scenes.outside(0, tugs - 1)) {
            add(all, "setStrength(" + wrong + ", 1)", OUTSIDE, x -> x.setStrength(wrong, 1));
            add(all, "setStrength(" + wrong + ", 0)", OUTSIDE, x -> x.setStrength(wrong, 0));
            add(all, "setStrength(" + wrong + ", 4)", OUTSIDE, x -> x.setStrength(wrong, 4));
        }
        for (int wrong : Scenes.outside(0, 1440)) {
            add(all, "setCurfew(" + wrong + ", 5)", ILLEGAL, x -> x.setCurfew(wrong, 5));
            add(all, "setCurfew(5, " + wrong + ")", ILLEGAL, x -> x.setCurfew(5, wrong));
            add(all, "setCurfew(" + wrong + ", " + wrong + ")", ILLEGAL, x -> x.setCurfew(wrong, wrong));
        }
    }

    private static void addExpect(List<Refused> all, String due, int kind, int comes, int leaves, int passengers) {
        add(all, "expect(" + kind + ", " + comes + ", " + leaves + ", " + passengers + ")", due,
                x -> x.expect(kind, comes, leaves, passengers));
    }

    private static void addAircraft(List<Refused> all, StandTugs sizes) {
        for (int kind = -45; kind < 60; kind++) {
            if (kind < 11 || kind > 43 || kind % 10 < 1 || kind % 10 > 3) {
                addExpect(all, ILLEGAL, kind, 0, 1, 0);
            }
        }
        for (int kind : new int[] {Integer.MIN_VALUE, Integer.MAX_VALUE, -2147483637, 111, 431, 1011, 65547}) {
            addExpect(all, ILLEGAL, kind, 0, 1, 0);
        }
        for (int wrong : Scenes.outside(0, 1998)) {
            addExpect(all, ILLEGAL, 11, wrong, 1999, 0);
            addExpect(all, ILLEGAL, 11, wrong, wrong, 0);
            addExpect(all, ILLEGAL, 11, wrong, wrong + 1, 0);
        }
        for (int wrong : Scenes.outside(1, 1999)) {
            addExpect(all, ILLEGAL, 11, 0, wrong, 0);
            addExpect(all, ILLEGAL, 11, 1998, wrong, 0);
        }
        addExpect(all, ILLEGAL, 11, 1998, 1998, 0);
        addExpect(all, ILLEGAL, 11, 1998, 1997, 0);
        addExpect(all, ILLEGAL, 11, 70, 70, 0);
        addExpect(all, ILLEGAL, 11, 70, 69, 0);
        for (int wrong : Scenes.outside(0, 400)) {
            addExpect(all, ILLEGAL, 11, 0, 1, wrong);
            addExpect(all, ILLEGAL, 43, 1998, 1999, wrong);
            addExpect(all, ILLEGAL, wrong, wrong, wrong, wrong);
        }
        if (sizes.value(2) == 12) {
            addExpect(all, UNFIT, 11, 0, 1, 0);
            addExpect(all, UNFIT, 43, 1998, 1999, 400);
        }
    }

    private static void addLeaves(List<Refused> all, StandTugs sizes) {
        for (int wrong : Scenes.outside(0, sizes.value(2) - 1)) {
            for (int leaves : new int[] {0, 1, 1999, 2000, Integer.MIN_VALUE}) {
                add(all, "setLeaves(" + wrong + ", " + leaves + ")", OUTSIDE, x -> x.setLeaves(wrong, leaves));
            }
        }
        for (int i = 0; i < sizes.value(2); i++) {
            int number = i;
            int comes = sizes.aircraft(i, 2);
            for (int wrong : Scenes.outside(comes + 1, 1999)) {
                add(all, "setLeaves(" + i + ", " + wrong + ")", ILLEGAL, x -> x.setLeaves(number, wrong));
            }
            if (sizes.aircraft(i, 5) >= 4) {
                add(all, "setLeaves(" + i + ", least)", UNFIT, x -> x.setLeaves(number, comes + 1));
                add(all, "setLeaves(" + i + ", 1999)", UNFIT, x -> x.setLeaves(number, 1999));
            }
        }
    }

    private static void addPass(List<Refused> all, StandTugs sizes) {
        for (int wrong : Scenes.outside(1, 500)) {
            add(all, "pass(" + wrong + ")", ILLEGAL, x -> x.pass(wrong));
        }
        int left = 10000 - sizes.value(3);
        if (left < 500) {
            add(all, "pass(" + (left + 1) + ")", UNFIT, x -> x.pass(left + 1));
            add(all, "pass(500)", UNFIT, x -> x.pass(500));
        }
    }

    private static void addTold(List<Refused> all, StandTugs sizes) {
        for (int wrong : Scenes.outside(0, sizes.value(2) - 1)) {
            for (int what : new int[] {0, 9, -1, 10}) {
                add(all, "aircraft(" + wrong + ", " + what + ")", OUTSIDE, x -> x.aircraft(wrong, what));
            }
            add(all, "why(" + wrong + ")", OUTSIDE, x -> x.why(wrong));
            add(all, "delayOf(" + wrong + ")", OUTSIDE, x -> x.delayOf(wrong));
        }
        for (int wrong : Scenes.outside(0, sizes.value(0) - 1)) {
            for (int what : new int[] {0, 3, -1, 4}) {
                add(all, "stand(" + wrong + ", " + what + ")", OUTSIDE, x -> x.stand(wrong, what));
            }
        }
        for (int wrong : Scenes.outside(0, sizes.value(1) - 1)) {
            for (int what : new int[] {0, 4, -1, 5}) {
                add(all, "tug(" + wrong + ", " + what + ")", OUTSIDE, x -> x.tug(wrong, what));
            }
        }
        for (int wrong : Scenes.outside(0, sizes.value(15) - 1)) {
            for (int what : new int[] {0, 2, -1, 3}) {
                add(all, "event(" + wrong + ", " + what + ")", OUTSIDE, x -> x.event(wrong, what));
            }
        }
        addWhat(all, sizes);
    }

    private static void addWhat(List<Refused> all, StandTugs sizes) {
        int lastAircraft = sizes.value(2) - 1;
        for (int wrong : Scenes.outside(0, 9)) {
            if (lastAircraft >= 0) {
                add(all, "aircraft(0, " + wrong + ")", ILLEGAL, x -> x.aircraft(0, wrong));
                add(all, "aircraft(last, " + wrong + ")", ILLEGAL, x -> x.aircraft(lastAircraft, wrong));
            }
        }
        for (int wrong : Scenes.outside(0, 3)) {
            add(all, "stand(0, " + wrong + ")", ILLEGAL, x -> x.stand(0, wrong));
            add(all, "stand(last, " + wrong + ")", ILLEGAL, x -> x.stand(sizes.value(0) - 1, wrong));
        }
        for (int wrong : Scenes.outside(0, 4)) {
            add(all, "tug(0, " + wrong + ")", ILLEGAL, x -> x.tug(0, wrong));
            add(all, "tug(last, " + wrong + ")", ILLEGAL, x -> x.tug(sizes.value(1) - 1, wrong));
        }
        int lastEvent = sizes.value(15) - 1;
        for (int wrong : Scenes.outside(0, 2)) {
            if (lastEvent >= 0) {
                add(all, "event(0, " + wrong + ")", ILLEGAL, x -> x.event(0, wrong));
                add(all, "event(last, " + wrong + ")", ILLEGAL, x -> x.event(lastEvent, wrong));
            }
        }
        for (int wrong : Scenes.outside(0, 15)) {
            add(all, "value(" + wrong + ")", ILLEGAL, x -> x.value(wrong));
        }
    }

    private static void addRest(List<Refused> all, Made made) {
        for (int wrong : Scenes.outside(1, 3)) {
            add(all, "delaysWithTug(" + wrong + ")", ILLEGAL, x -> x.delaysWithTug(wrong));
        }
        for (int wrong : Scenes.outside(0, 127)) {
            add(all, "append(" + wrong + ")", ILLEGAL, x -> x.append(wrong));
        }
        if (made.make().clearText() == 90) {
            add(all, "append(0)", UNFIT, x -> x.append(0));
            add(all, "append(127)", UNFIT, x -> x.append(127));
            add(all, "append(';')", UNFIT, x -> x.append(';'));
        }
        boolean isSaved = true;
        try {
            made.make().undo();
        } catch (IllegalStateException e) {
            isSaved = false;
        }
        if (!isSaved) {
            add(all, "undo()", UNFIT, x -> x.undo());
        }
    }
}
