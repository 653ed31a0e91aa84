import java.util.ArrayList;
import java.util.Comparator;
import java.util.List;

/** The document once more, minute by minute and with no care for speed: what StandTugs is held against. */
final class PlainField {
    static final class Plane {
        final int number;
        final int span;
        final int weight;
        final int comes;
        final int passengers;
        int leaves;
        String place = "expected";
        int stand = -1;
        int delay = -1;
        int minutes = 0;
        int buses = 0;

        Plane(int number, int kind, int comes, int leaves, int passengers) {
            this.number = number;
            this.span = kind / 10;
            this.weight = kind % 10;
            this.comes = comes;
            this.leaves = leaves;
            this.passengers = passengers;
        }

        Plane copy() {
            Plane plane = new Plane(number, 10 * span + weight, comes, leaves, passengers);
            plane.place = place;
            plane.stand = stand;
            plane.delay = delay;
            plane.minutes = minutes;
            plane.buses = buses;
            return plane;
        }

        void ride() {
            for (int left = passengers; left > 0; left -= 50) {
                buses++;
            }
        }

        int placeNumber() {
            return List.of("expected", "stand", "bay", "towed", "pushed", "gone").indexOf(place);
        }
    }

    static final class Tug {
        int strength = 3;
        Plane plane = null;
        int freeAt = 0;
        int pushes = 0;
        int tows = 0;
    }

    final List<Plane> planes = new ArrayList<>();
    final List<Tug> tugs = new ArrayList<>();
    final List<int[]> events = new ArrayList<>();
    int[] spans;
    int[] standMinutes;
    int minute = 0;
    int curfewBegin = 0;
    int curfewEnd = 0;

    PlainField(int stands, int tugCount) {
        spans = new int[stands];
        java.util.Arrays.fill(spans, 2);
        standMinutes = new int[stands];
        for (int i = 0; i < tugCount; i++) {
            tugs.add(new Tug());
        }
    }

    PlainField copy() {
        PlainField other = new PlainField(spans.length, 0);
        other.spans = spans.clone();
        other.standMinutes = standMinutes.clone();
        other.minute = minute;
        other.curfewBegin = curfewBegin;
        other.curfewEnd = curfewEnd;
        for (Plane plane : planes) {
            other.planes.add(plane.copy());
        }
        for (Tug tug : tugs) {
            Tug copy = new Tug();
            copy.strength = tug.strength;
            copy.plane = tug.plane == null ? null : other.planes.get(tug.plane.number);
            copy.freeAt = tug.freeAt;
            copy.pushes = tug.pushes;
            copy.tows = tug.tows;
            other.tugs.add(copy);
        }
        other.events.addAll(events);
        return other;
    }

    void restart() {
        planes.clear();
        events.clear();
        minute = 0;
        standMinutes = new int[spans.length];
        for (Tug tug : tugs) {
            tug.plane = null;
            tug.freeAt = 0;
            tug.pushes = 0;
            tug.tows = 0;
        }
    }

    Plane onStand(int stand) {
        for (Plane plane : planes) {
            if (plane.stand == stand) {
                return plane;
            }
        }
        return null;
    }

    private int freeStand(int span) {
        for (int size = span; size <= 4; size++) {
            for (int i = 0; i < spans.length; i++) {
                if (spans[i] == size && onStand(i) == null) {
                    return i;
                }
            }
        }
        return -1;
    }

    private Tug freeTug(int weight) {
        for (int strength = weight; strength <= 3; strength++) {
            for (Tug tug : tugs) {
                if (tug.strength == strength && tug.plane == null) {
                    return tug;
                }
            }
        }
        return null;
    }

    private void log(int kind, Plane plane) {
        events.add(0, new int[] {kind, minute, plane.number});
        if (events.size() > 30) {
            events.remove(30);
        }
    }

    boolean isCurfew() {
        return curfewEnd > curfewBegin && minute % 1440 >= curfewBegin && minute % 1440 <= curfewEnd - 1;
    }

    private boolean pushedAt(int stand) {
        Plane plane = stand < 0 ? null : onStand(stand);
        return plane != null && plane.place.equals("pushed");
    }

    private boolean neighborPushed(Plane plane) {
        return plane.place.equals("stand") && (pushedAt(plane.stand - 1) || pushedAt(plane.stand + 1));
    }

    void passMinute() {
        for (Tug tug : tugs) {
            if (tug.plane != null && tug.freeAt == minute) {
                boolean towed = tug.plane.place.equals("towed");
                tug.plane.place = towed ? "stand" : "gone";
                if (!towed) {
                    tug.plane.stand = -1;
                }
                log(towed ? 6 : 4, tug.plane);
                tug.plane = null;
            }
        }
        for (Plane plane : planes) {
            if (plane.place.equals("expected") && plane.comes <= minute) {
                plane.stand = freeStand(plane.span);
                plane.place = plane.stand < 0 ? "bay" : "stand";
                if (plane.stand < 0) {
                    plane.ride();
                }
                log(plane.stand < 0 ? 2 : 1, plane);
            }
        }
        List<Plane> order = new ArrayList<>(planes);
        order.sort(Comparator.comparingInt((Plane plane) -> plane.leaves).thenComparingInt(plane -> plane.number));
        for (Plane plane : order) {
            if (why(plane) == 0) {
                Tug tug = freeTug(plane.weight);
                if (plane.place.equals("bay")) {
                    plane.ride();
                }
                plane.place = "pushed";
                plane.delay = minute - plane.leaves;
                tug.plane = plane;
                tug.freeAt = minute + 5;
                tug.pushes++;
                log(3, plane);
            }
        }
        for (Plane plane : planes) {
            if (plane.place.equals("bay") && plane.leaves > minute + 30) {
                int stand = freeStand(plane.span);
                Tug tug = freeTug(plane.weight);
                if (stand >= 0 && tug != null) {
                    plane.place = "towed";
                    plane.stand = stand;
                    tug.plane = plane;
                    tug.freeAt = minute + 10;
                    tug.tows++;
                    log(5, plane);
                }
            }
        }
        for (Plane plane : planes) {
            if (plane.stand >= 0) {
                plane.minutes++;
                standMinutes[plane.stand]++;
            }
        }
        minute++;
    }

    int why(Plane plane) {
        switch (plane.place) {
            case "expected": return 1;
            case "towed": return 2;
            case "pushed":
            case "gone": return 3;
            default: break;
        }
        if (plane.leaves > minute) {
            return 4;
        }
        if (isCurfew()) {
            return 5;
        }
        if (neighborPushed(plane)) {
            return 6;
        }
        return freeTug(plane.weight) == null ? 7 : 0;
    }

    int count(int place) {
        int count = 0;
        for (Plane plane : planes) {
            count += plane.placeNumber() == place ? 1 : 0;
        }
        return count;
    }

    int delays() {
        int sum = 0;
        for (Plane plane : planes) {
            sum += plane.delay < 0 ? 0 : plane.delay;
        }
        return sum;
    }

    int buses() {
        int sum = 0;
        for (Plane plane : planes) {
            sum += plane.buses;
        }
        return sum;
    }

    /** Lets this very field go on. */
    int goOnUntilAllGone() {
        for (int i = 0; i <= 3000; i++) {
            if (count(5) == planes.size()) {
                return i;
            }
            passMinute();
        }
        return -1;
    }

    int delayOf(int number) {
        PlainField other = copy();
        for (int i = 0; i < 3000 && other.planes.get(number).delay < 0; i++) {
            other.passMinute();
        }
        return other.planes.get(number).delay;
    }

    int delaysWithTug(int strength) {
        if (tugs.size() == 3) {
            return -1;
        }
        PlainField other = copy();
        Tug tug = new Tug();
        tug.strength = strength;
        other.tugs.add(tug);
        return other.goOnUntilAllGone() < 0 ? -1 : other.delays();
    }

    int bestStand() {
        int best = -1;
        int fewest = Integer.MAX_VALUE;
        for (int i = 0; i < spans.length; i++) {
            PlainField other = copy();
            other.spans[i]++;
            if (spans[i] < 4 && other.goOnUntilAllGone() >= 0 && other.buses() < fewest) {
                best = i;
                fewest = other.buses();
            }
        }
        return best;
    }

    double used() {
        int sum = 0;
        for (int minutes : standMinutes) {
            sum += minutes;
        }
        return minute == 0 ? 0.0 : (double) sum / (double) (spans.length * minute);
    }

    int value(int what) {
        int greatest = 0;
        for (Plane plane : planes) {
            greatest = Math.max(greatest, plane.delay);
        }
        int[] values = {spans.length, tugs.size(), planes.size(), minute, curfewBegin, curfewEnd, count(0), count(1),
            count(2), count(3), count(4), count(5), delays(), greatest, buses(), events.size()};
        return values[what];
    }

    int stand(int stand, int what) {
        Plane plane = onStand(stand);
        int[] values = {spans[stand], plane == null ? -1 : plane.number, pushedAt(stand) ? 1 : 0,
            standMinutes[stand]};
        return values[what];
    }

    int tug(int number, int what) {
        Tug tug = tugs.get(number);
        boolean busy = tug.plane != null;
        // A tug that begins in the minute t with 5 has 4 left when the minute t + 1 is over.
        int left = busy ? tug.freeAt - (minute - 1) : 0;
        int[] values = {tug.strength, busy ? tug.plane.number : -1, left, tug.pushes, tug.tows};
        return values[what];
    }

    int aircraft(int number, int what) {
        Plane plane = planes.get(number);
        int[] values = {plane.span, plane.weight, plane.comes, plane.leaves, plane.passengers, plane.placeNumber(),
            plane.stand, plane.delay, plane.minutes, plane.buses};
        return values[what];
    }

    long digest(int textLength, int saved) {
        List<Integer> all = new ArrayList<>();
        all.add(textLength);
        for (int what = 0; what < 16; what++) {
            all.add(value(what));
        }
        for (int i = 0; i < 4 * spans.length; i++) {
            all.add(stand(i / 4, i % 4));
        }
        for (int i = 0; i < 5 * tugs.size(); i++) {
            all.add(tug(i / 5, i % 5));
        }
        for (Plane plane : planes) {
            for (int what = 0; what < 10; what++) {
                all.add(aircraft(plane.number, what));
            }
            all.add(why(plane));
        }
        for (int[] event : events) {
            for (int part : event) {
                all.add(part);
            }
        }
        all.add(copy().goOnUntilAllGone());
        all.add(saved);
        long hash = 3541;
        for (int value : all) {
            hash = 31 * hash + value;
        }
        return hash;
    }
}
