import java.util.ArrayList;
import java.util.List;

/** Long runs of calls, made by a fixed row of numbers, on StandTugs and on PlainField side by side. */
public final class RandomRunsTest {
    private static final String[] PIECES = {"11", "22", "33", "43", "14", "51", "0", "1", "9", "0007", "1999", "2000",
        "1998", "25", ",", ",", ",60", ",100", ";", ";", "p", "p0;", "p400;", "p401", "x", " ", "110,1;", "235,90p50;"};

    private static final int LAST_CALL = 512;
    private static final int MOST_CALLS_OF_A_STEP = 60;

    private final Check check;
    private final int run;
    private final StandTugs x = new StandTugs();
    private PlainField field = new PlainField(3, 1);
    private final List<PlainField> saved = new ArrayList<>();
    private final StringBuilder text = new StringBuilder();
    private long seed;
    /** What an object answers after its 512th call is not promised. */
    private int made = 0;

    private RandomRunsTest(Check check, int run) {
        this.check = check;
        this.run = run;
        this.seed = 77003L * run + 5;
    }

    public static void main(String[] args) {
        Check check = new Check();
        for (int run = 0; run < 200; run++) {
            RandomRunsTest test = new RandomRunsTest(check, run);
            while (test.made < LAST_CALL - MOST_CALLS_OF_A_STEP) {
                test.step(test.made);
            }
            while (test.made < LAST_CALL) {
                test.stepDigest();
            }
        }
        check.end();
    }

    private int below(int bound) {
        seed = seed * 6364136223846793005L + 1442695040888963407L;
        return (int) ((seed >>> 33) % bound);
    }

    private int from(int least, int most) {
        if (below(40) == 0) {
            int[] wrong = {least - 1, most + 1, Integer.MIN_VALUE, Integer.MAX_VALUE, -1};
            return wrong[below(wrong.length)];
        }
        return least >= most ? least : least + below(most - least + 1);
    }

    private void save() {
        saved.add(field.copy());
        if (saved.size() > 4) {
            saved.remove(0);
        }
    }

    private void step(int call) {
        switch (below(16)) {
            case 0: stepSettings(call); break;
            case 1:
            case 2:
            case 3:
            case 4: stepExpect(call); break;
            case 5:
            case 6:
            case 7: stepPass(call); break;
            case 8: stepLeaves(call); break;
            case 9: stepText(call); break;
            case 10: stepUndo(call); break;
            case 11: stepQuestion(call); break;
            default: stepLook(call); break;
        }
        if (call % 7 == 0) {
            stepDigest();
        }
    }

    private void stepDigest() {
        due(made, "digest()", () -> x.digest(), "", field.digest(text.length(), saved.size()));
    }

    private interface Call {
        long go();
    }

    /** Wrong is "" or the name of the exception that is due. */
    private boolean due(int call, String name, Call asked, String wrong, long want) {
        String got;
        made++;
        try {
            got = "" + asked.go();
        } catch (RuntimeException e) {
            got = e.getClass().getSimpleName();
        }
        String right = wrong.isEmpty() ? "" + want : wrong;
        check.holds("run " + run + " call " + call + ": " + name + " answered " + got + ", due is " + right,
                got.equals(right));
        return wrong.isEmpty();
    }

    private static String wrongIf(boolean outside, boolean illegal, boolean unfit) {
        if (outside) {
            return "IndexOutOfBoundsException";
        }
        return illegal ? "IllegalArgumentException" : unfit ? "IllegalStateException" : "";
    }

    private static boolean out(int value, int least, int most) {
        return value < least || value > most;
    }

    private void stepSettings(int call) {
        int which = below(7);
        if (which == 0) {
            int stands = from(1, 6);
            int tugs = from(1, 3);
            String wrong = wrongIf(false, out(stands, 1, 6) || out(tugs, 1, 3), false);
            if (due(call, "begin(" + stands + ", " + tugs + ")", () -> x.begin(stands, tugs), wrong, field.minute)) {
                save();
                PlainField other = new PlainField(stands, tugs);
                other.curfewBegin = field.curfewBegin;
                other.curfewEnd = field.curfewEnd;
                field = other;
            }
        } else if (which < 4) {
            int stand = from(0, field.spans.length - 1);
            int span = from(1, 4);
            boolean none = out(stand, 0, field.spans.length - 1);
            String wrong = wrongIf(none, out(span, 1, 4), false);
            if (due(call, "setSpan(" + stand + ", " + span + ")", () -> x.setSpan(stand, span), wrong,
                    none ? 0 : field.spans[stand])) {
                save();
                field.spans[stand] = span;
            }
        } else if (which < 6) {
            int tug = from(0, field.tugs.size() - 1);
            int strength = from(1, 3);
            boolean none = out(tug, 0, field.tugs.size() - 1);
            String wrong = wrongIf(none, out(strength, 1, 3), false);
            if (due(call, "setStrength(" + tug + ", " + strength + ")", () -> x.setStrength(tug, strength), wrong,
                    none ? 0 : field.tugs.get(tug).strength)) {
                save();
                field.tugs.get(tug).strength = strength;
            }
        } else {
            stepCurfew(call);
        }
    }

    private void stepCurfew(int call) {
        int near = field.minute % 1440;
        int begin = below(2) == 0 ? from(0, 1440) : Math.min(1440, near + below(60));
        int end = below(2) == 0 ? from(0, 1440) : Math.min(1440, Math.max(begin, 0) + below(90));
        String wrong = wrongIf(false, out(begin, 0, 1440) || out(end, 0, 1440), false);
        if (due(call, "setCurfew(" + begin + ", " + end + ")", () -> x.setCurfew(begin, end), wrong,
                end > begin ? end - begin : 0)) {
            save();
            field.curfewBegin = begin;
            field.curfewEnd = end;
        }
    }

    private void stepExpect(int call) {
        int kind = below(40) == 0 ? from(0, 50) : 10 * from(1, 4) + from(1, 3);
        int comes = below(8) == 0 ? from(0, 1999) : Math.min(1990, field.minute + below(40));
        int leaves = below(8) == 0 ? from(comes + 1, 1999) : Math.min(1999, comes + 1 + below(90));
        int passengers = below(3) == 0 ? 50 * below(9) + below(2) : from(0, 400);
        boolean isKind = kind >= 11 && kind <= 43 && kind % 10 >= 1 && kind % 10 <= 3;
        boolean illegal = !isKind || out(comes, 0, 1999) || leaves <= comes || leaves > 1999
                || out(passengers, 0, 400);
        String wrong = wrongIf(false, illegal, field.planes.size() == 12);
        if (due(call, "expect(" + kind + ", " + comes + ", " + leaves + ", " + passengers + ")",
                () -> x.expect(kind, comes, leaves, passengers), wrong, field.planes.size())) {
            save();
            field.planes.add(new PlainField.Plane(field.planes.size(), kind, comes, leaves, passengers));
        }
    }

    private void stepPass(int call) {
        int minutes = below(3) == 0 ? from(1, 500) : 1 + below(30);
        boolean illegal = out(minutes, 1, 500);
        String wrong = wrongIf(false, illegal, field.minute + (long) minutes > 10000);
        if (wrong.isEmpty()) {
            save();
            int before = field.count(5);
            for (int i = 0; i < minutes; i++) {
                field.passMinute();
            }
            due(call, "pass(" + minutes + ")", () -> x.pass(minutes), wrong, field.count(5) - before);
        } else {
            due(call, "pass(" + minutes + ")", () -> x.pass(minutes), wrong, 0);
        }
    }

    private void stepLeaves(int call) {
        int number = from(0, Math.max(0, field.planes.size() - 1));
        boolean none = out(number, 0, field.planes.size() - 1);
        PlainField.Plane plane = none ? null : field.planes.get(number);
        int leaves = below(3) == 0 || none ? from(0, 1999) : plane.comes + below(120);
        boolean illegal = !none && (leaves <= plane.comes || leaves > 1999);
        String wrong = wrongIf(none, illegal, !none && plane.placeNumber() >= 4);
        if (due(call, "setLeaves(" + number + ", " + leaves + ")", () -> x.setLeaves(number, leaves), wrong,
                none ? 0 : plane.leaves)) {
            save();
            plane.leaves = leaves;
        }
    }

    private void stepText(int call) {
        if (below(4) == 0) {
            due(call, "clearText()", () -> x.clearText(), "", text.length());
            text.setLength(0);
        }
        for (int i = below(6); i > 0; i--) {
            String piece = PIECES[below(PIECES.length)];
            for (int j = 0; j < piece.length(); j++) {
                stepAppend(call, below(300) == 0 ? from(0, 127) : piece.charAt(j));
            }
        }
        PlainText read = new PlainText(text.toString());
        int want = read.error < 0 ? read.planes.size() : -10 - read.error;
        due(call, "parse() of " + text, () -> x.parse(), "", want);
        if (read.error < 0) {
            save();
            field.restart();
            for (int[] plane : read.planes) {
                field.planes.add(new PlainField.Plane(field.planes.size(), plane[0], plane[1], plane[2], plane[3]));
            }
        }
    }

    private void stepAppend(int call, int value) {
        String wrong = wrongIf(false, out(value, 0, 127), text.length() == 90);
        if (due(call, "append(" + value + ")", () -> x.append(value), wrong, text.length() + 1)) {
            text.append((char) value);
        }
    }

    private void stepUndo(int call) {
        if (due(call, "undo()", () -> x.undo(), wrongIf(false, false, saved.isEmpty()), saved.size() - 1)) {
            field = saved.remove(saved.size() - 1);
        }
    }

    private void stepQuestion(int call) {
        int number = from(0, Math.max(0, field.planes.size() - 1));
        boolean none = out(number, 0, field.planes.size() - 1);
        due(call, "delayOf(" + number + ")", () -> x.delayOf(number), wrongIf(none, false, false),
                none ? 0 : field.delayOf(number));
        int strength = from(1, 3);
        boolean illegal = out(strength, 1, 3);
        due(call, "delaysWithTug(" + strength + ")", () -> x.delaysWithTug(strength),
                wrongIf(false, illegal, false), illegal ? 0 : field.delaysWithTug(strength));
        due(call, "minutesToAll()", () -> x.minutesToAll(), "", field.copy().goOnUntilAllGone());
        due(call, "bestStand()", () -> x.bestStand(), "", field.bestStand());
        made++;
        check.due("used()", x.used(), field.used());
    }

    private void stepLook(int call) {
        int what = from(0, 9);
        int number = from(0, Math.max(0, field.planes.size() - 1));
        boolean none = out(number, 0, field.planes.size() - 1);
        due(call, "why(" + number + ")", () -> x.why(number), wrongIf(none, false, false),
                none ? 0 : field.why(field.planes.get(number)));
        String wrong = wrongIf(none, out(what, 0, 9), false);
        due(call, "aircraft(" + number + ", " + what + ")", () -> x.aircraft(number, what), wrong,
                wrong.isEmpty() ? field.aircraft(number, what) : 0);
        String wrongStand = wrongIf(out(number, 0, field.spans.length - 1), out(what, 0, 3), false);
        due(call, "stand(" + number + ", " + what + ")", () -> x.stand(number, what), wrongStand,
                wrongStand.isEmpty() ? field.stand(number, what) : 0);
        String wrongTug = wrongIf(out(number, 0, field.tugs.size() - 1), out(what, 0, 4), false);
        due(call, "tug(" + number + ", " + what + ")", () -> x.tug(number, what), wrongTug,
                wrongTug.isEmpty() ? field.tug(number, what) : 0);
        int which = from(0, 15);
        String wrongValue = wrongIf(false, out(which, 0, 15), false);
        due(call, "value(" + which + ")", () -> x.value(which), wrongValue,
                wrongValue.isEmpty() ? field.value(which) : 0);
        int index = from(0, 29);
        String wrongEvent = wrongIf(out(index, 0, field.events.size() - 1), out(what, 0, 2), false);
        due(call, "event(" + index + ", " + what + ")", () -> x.event(index, what), wrongEvent,
                wrongEvent.isEmpty() ? field.events.get(index)[what] : 0);
    }
}
