/** Aircraft, stands and tugs of an airfield; ../shared/DOC.md says what each call answers. */
public final class StandTugs {
    public static final int NONE = -1;

    private static final int MOST_STANDS = 6;
    private static final int MOST_TUGS = 3;
    private static final int MOST_AIRCRAFT = 12;
    private static final int MOST_SPAN = 4;
    private static final int MOST_STRENGTH = 3;
    private static final int MOST_PASSENGERS = 400;
    private static final int LAST_LEAVING = 1999;
    private static final int DAY = 1440;
    private static final int LONGEST_PASS = 500;
    private static final int LAST_MINUTE = 10000;
    private static final int LONGEST_QUESTION = 3000;
    private static final int MOST_SAVED = 4;
    private static final int MOST_EVENTS = 30;
    private static final int MOST_BYTES = 90;

    private static final int STANDS_AT_FIRST = 3;
    private static final int TUGS_AT_FIRST = 1;
    private static final int SPAN_AT_FIRST = 2;
    private static final int STRENGTH_AT_FIRST = 3;

    private static final int PUSH_MINUTES = 5;
    private static final int TOW_MINUTES = 10;
    private static final int TOW_AHEAD = 30;
    private static final int BUS_SEATS = 50;
    private static final int PASSENGERS_UNTOLD = 100;

    private static final int EXPECTED = 0;
    private static final int ON_STAND = 1;
    private static final int ON_BAY = 2;
    private static final int TOWED = 3;
    private static final int PUSHED = 4;
    private static final int GONE = 5;

    private static final int AT_STAND = 1;
    private static final int AT_BAY = 2;
    private static final int PUSH_BEGINS = 3;
    private static final int HAS_GONE = 4;
    private static final int TOW_BEGINS = 5;
    private static final int TOW_ENDS = 6;

    private static final int WOULD_BE_PUSHED = 0;
    private static final int STILL_EXPECTED = 1;
    private static final int BEING_TOWED = 2;
    private static final int PUSHED_ALREADY = 3;
    private static final int TOO_EARLY = 4;
    private static final int CURFEW = 5;
    private static final int NEIGHBOR = 6;
    private static final int NO_TUG = 7;

    private static final int AIRCRAFT_ANSWERS = 10;
    private static final int STAND_ANSWERS = 4;
    private static final int TUG_ANSWERS = 5;
    private static final int FIELD_ANSWERS = 16;
    private static final int EVENT_ANSWERS = 3;

    private final Field now;
    /** What the questions are tried on, so that asking makes no objects and leaves the field alone. */
    private final Field trial;
    /** The saved states, the oldest one first. */
    private final Field[] saved;
    private int savedCount;
    private final Timetable timetable;

    public StandTugs() {
        now = new Field();
        trial = new Field();
        saved = new Field[MOST_SAVED];
        for (int i = 0; i < MOST_SAVED; i++) {
            saved[i] = new Field();
        }
        savedCount = 0;
        timetable = new Timetable();
    }

    // ---- field

    public int begin(int stands, int tugs) throws IllegalArgumentException {
        if (isOutside(stands, 1, MOST_STANDS) || isOutside(tugs, 1, MOST_TUGS)) {
            throw new IllegalArgumentException("stands or tugs out of range");
        }
        int before = now.minute;
        save();
        now.build(stands, tugs);
        return before;
    }

    public int setSpan(int stand, int span) throws IndexOutOfBoundsException, IllegalArgumentException {
        if (!now.hasStand(stand)) {
            throw new IndexOutOfBoundsException("no such stand");
        }
        if (isOutside(span, 1, MOST_SPAN)) {
            throw new IllegalArgumentException("span out of range");
        }
        int before = now.stands[stand].span;
        save();
        now.stands[stand].span = span;
        return before;
    }

    public int setStrength(int tug, int strength) throws IndexOutOfBoundsException, IllegalArgumentException {
        if (!now.hasTug(tug)) {
            throw new IndexOutOfBoundsException("no such tug");
        }
        if (isOutside(strength, 1, MOST_STRENGTH)) {
            throw new IllegalArgumentException("strength out of range");
        }
        int before = now.tugs[tug].strength;
        save();
        now.tugs[tug].strength = strength;
        return before;
    }

    public int setCurfew(int begin, int end) throws IllegalArgumentException {
        if (isOutside(begin, 0, DAY) || isOutside(end, 0, DAY)) {
            throw new IllegalArgumentException("begin or end out of range");
        }
        save();
        now.curfewBegin = begin;
        now.curfewEnd = end;
        return Math.max(0, end - begin);
    }

    public int expect(int kind, int comes, int leaves, int passengers)
            throws IllegalArgumentException, IllegalStateException {
        if (!isKind(kind) || isOutside(comes, 0, LAST_LEAVING) || leaves <= comes || leaves > LAST_LEAVING
                || isOutside(passengers, 0, MOST_PASSENGERS)) {
            throw new IllegalArgumentException("kind, minutes or passengers out of range");
        }
        if (now.aircraftCount >= MOST_AIRCRAFT) {
            throw new IllegalStateException("12 aircraft already");
        }
        int number = now.aircraftCount;
        save();
        now.add(kind, comes, leaves, passengers);
        return number;
    }

    public int setLeaves(int aircraft, int leaves)
            throws IndexOutOfBoundsException, IllegalArgumentException, IllegalStateException {
        if (!now.hasAircraft(aircraft)) {
            throw new IndexOutOfBoundsException("no such aircraft");
        }
        Aircraft one = now.aircraft[aircraft];
        if (leaves <= one.comes || leaves > LAST_LEAVING) {
            throw new IllegalArgumentException("leaves out of range");
        }
        if (one.place == PUSHED || one.place == GONE) {
            throw new IllegalStateException("pushed back or gone");
        }
        int before = one.leaves;
        save();
        one.leaves = leaves;
        return before;
    }

    public int pass(int minutes) throws IllegalArgumentException, IllegalStateException {
        if (isOutside(minutes, 1, LONGEST_PASS)) {
            throw new IllegalArgumentException("minutes out of range");
        }
        if (now.minute + minutes > LAST_MINUTE) {
            throw new IllegalStateException("after the last minute");
        }
        save();
        int goneBefore = now.countAt(GONE);
        int passed = 0;
        for (int i = 0; i < minutes && passed < minutes; i++) {
            passed += now.passSome(minutes - passed);
        }
        return now.countAt(GONE) - goneBefore;
    }

    public int aircraft(int aircraft, int what) throws IndexOutOfBoundsException, IllegalArgumentException {
        if (!now.hasAircraft(aircraft)) {
            throw new IndexOutOfBoundsException("no such aircraft");
        }
        if (isOutside(what, 0, AIRCRAFT_ANSWERS - 1)) {
            throw new IllegalArgumentException("what out of range");
        }
        return now.aircraft[aircraft].answer(what);
    }

    public int stand(int stand, int what) throws IndexOutOfBoundsException, IllegalArgumentException {
        if (!now.hasStand(stand)) {
            throw new IndexOutOfBoundsException("no such stand");
        }
        if (isOutside(what, 0, STAND_ANSWERS - 1)) {
            throw new IllegalArgumentException("what out of range");
        }
        return now.standAnswer(stand, what);
    }

    public int tug(int tug, int what) throws IndexOutOfBoundsException, IllegalArgumentException {
        if (!now.hasTug(tug)) {
            throw new IndexOutOfBoundsException("no such tug");
        }
        if (isOutside(what, 0, TUG_ANSWERS - 1)) {
            throw new IllegalArgumentException("what out of range");
        }
        return now.tugs[tug].answer(what);
    }

    public int value(int what) throws IllegalArgumentException {
        if (isOutside(what, 0, FIELD_ANSWERS - 1)) {
            throw new IllegalArgumentException("what out of range");
        }
        return now.answer(what);
    }

    public int event(int index, int what) throws IndexOutOfBoundsException, IllegalArgumentException {
        if (isOutside(index, 0, now.log.kept() - 1)) {
            throw new IndexOutOfBoundsException("not so many events");
        }
        if (isOutside(what, 0, EVENT_ANSWERS - 1)) {
            throw new IllegalArgumentException("what out of range");
        }
        return now.log.answer(index, what);
    }

    public int why(int aircraft) throws IndexOutOfBoundsException {
        if (!now.hasAircraft(aircraft)) {
            throw new IndexOutOfBoundsException("no such aircraft");
        }
        return now.reason(aircraft);
    }

    // ---- what if

    public int delayOf(int aircraft) throws IndexOutOfBoundsException {
        if (!now.hasAircraft(aircraft)) {
            throw new IndexOutOfBoundsException("no such aircraft");
        }
        trial.copyFrom(now);
        Aircraft one = trial.aircraft[aircraft];
        int passed = 0;
        for (int i = 0; i < LONGEST_QUESTION && passed < LONGEST_QUESTION && one.delay == NONE; i++) {
            passed += trial.passSome(LONGEST_QUESTION - passed);
        }
        return one.delay;
    }

    public int minutesToAll() {
        trial.copyFrom(now);
        return trial.passUntilAllGone();
    }

    public int delaysWithTug(int strength) throws IllegalArgumentException {
        if (isOutside(strength, 1, MOST_STRENGTH)) {
            throw new IllegalArgumentException("strength out of range");
        }
        if (now.tugCount >= MOST_TUGS) {
            return NONE;
        }
        trial.copyFrom(now);
        trial.addTug(strength);
        if (trial.passUntilAllGone() == NONE) {
            return NONE;
        }
        return trial.sumOfDelays();
    }

    public int bestStand() {
        int best = NONE;
        int fewest = 0;
        for (int i = 0; i < now.standCount; i++) {
            if (now.stands[i].span < MOST_SPAN) {
                trial.copyFrom(now);
                trial.stands[i].span++;
                boolean ends = trial.passUntilAllGone() != NONE;
                int buses = trial.sumOfBuses();
                if (ends && (best == NONE || buses < fewest)) {
                    best = i;
                    fewest = buses;
                }
            }
        }
        return best;
    }

    public double used() {
        if (now.minute == 0) {
            return 0.0;
        }
        int sum = 0;
        for (int i = 0; i < now.standCount; i++) {
            sum += now.stands[i].minutes;
        }
        return (double) sum / (double) (now.standCount * now.minute);
    }

    // ---- text

    public int append(int value) throws IllegalArgumentException, IllegalStateException {
        if (isOutside(value, 0, 127)) {
            throw new IllegalArgumentException("value out of range");
        }
        if (timetable.length >= MOST_BYTES) {
            throw new IllegalStateException("the text is full");
        }
        timetable.add(value);
        return timetable.length;
    }

    public int clearText() {
        int before = timetable.length;
        timetable.length = 0;
        return before;
    }

    public int parse() {
        int error = timetable.read();
        if (error != NONE) {
            return -10 - error;
        }
        save();
        now.restart();
        for (int i = 0; i < timetable.count; i++) {
            now.add(timetable.kinds[i], timetable.comes[i], timetable.leaves[i], timetable.passengers[i]);
        }
        return timetable.count;
    }

    // ---- state

    public int undo() throws IllegalStateException {
        if (savedCount == 0) {
            throw new IllegalStateException("no saved state");
        }
        savedCount--;
        now.copyFrom(saved[savedCount]);
        return savedCount;
    }

    public long digest() {
        long hash = 31L * 3541L + timetable.length;
        for (int what = 0; what < FIELD_ANSWERS; what++) {
            hash = 31L * hash + now.answer(what);
        }
        for (int i = 0; i < now.standCount; i++) {
            for (int what = 0; what < STAND_ANSWERS; what++) {
                hash = 31L * hash + now.standAnswer(i, what);
            }
        }
        for (int i = 0; i < now.tugCount; i++) {
            for (int what = 0; what < TUG_ANSWERS; what++) {
                hash = 31L * hash + now.tugs[i].answer(what);
            }
        }
        for (int i = 0; i < now.aircraftCount; i++) {
            for (int what = 0; what < AIRCRAFT_ANSWERS; what++) {
                hash = 31L * hash + now.aircraft[i].answer(what);
            }
            hash = 31L * hash + now.reason(i);
        }
        for (int i = 0; i < now.log.kept(); i++) {
            for (int what = 0; what < EVENT_ANSWERS; what++) {
                hash = 31L * hash + now.log.answer(i, what);
            }
        }
        hash = 31L * hash + minutesToAll();
        return 31L * hash + savedCount;
    }

    private static boolean isOutside(int value, int least, int most) {
        return value < least || value > most;
    }

    private static boolean isKind(int kind) {
        return !isOutside(kind, 11, 10 * MOST_SPAN + MOST_STRENGTH) && !isOutside(kind % 10, 1, MOST_STRENGTH);
    }

    private void save() {
        if (savedCount == MOST_SAVED) {
            dropOldest();
        }
        saved[savedCount].copyFrom(now);
        savedCount++;
    }

    /** The dropped state's object goes to the end, to be written over. */
    private void dropOldest() {
        Field oldest = saved[0];
        for (int i = 1; i < MOST_SAVED; i++) {
            saved[i - 1] = saved[i];
        }
        saved[MOST_SAVED - 1] = oldest;
        savedCount--;
    }

    private static final class Aircraft {
        int span;
        int weight;
        int comes;
        int leaves;
        int passengers;
        int place;
        int stand;
        int delay;
        int minutes;
        int buses;

        void tell(int kind, int comes, int leaves, int passengers) {
            this.span = kind / 10;
            this.weight = kind % 10;
            this.comes = comes;
            this.leaves = leaves;
            this.passengers = passengers;
            place = EXPECTED;
            stand = NONE;
            delay = NONE;
            minutes = 0;
            buses = 0;
        }

        void copyFrom(Aircraft other) {
            span = other.span;
            weight = other.weight;
            comes = other.comes;
            leaves = other.leaves;
            passengers = other.passengers;
            place = other.place;
            stand = other.stand;
            delay = other.delay;
            minutes = other.minutes;
            buses = other.buses;
        }

        boolean isOnStandOrBay() {
            return place == ON_STAND || place == ON_BAY;
        }

        void takeBuses() {
            buses += (passengers + BUS_SEATS - 1) / BUS_SEATS;
        }

        int answer(int what) {
            switch (what) {
                case 0: return span;
                case 1: return weight;
                case 2: return comes;
                case 3: return leaves;
                case 4: return passengers;
                case 5: return place;
                case 6: return stand;
                case 7: return delay;
                case 8: return minutes;
                default: return buses;
            }
        }
    }

    private static final class Stand {
        int span;
        /** The aircraft that is on it, is towed to it, or is pushed back from it. */
        int aircraft;
        int minutes;

        void restart() {
            aircraft = NONE;
            minutes = 0;
        }

        void copyFrom(Stand other) {
            span = other.span;
            aircraft = other.aircraft;
            minutes = other.minutes;
        }
    }

    private static final class Tug {
        int strength;
        int aircraft;
        int minutesLeft;
        int pushes;
        int tows;

        void restart() {
            aircraft = NONE;
            minutesLeft = 0;
            pushes = 0;
            tows = 0;
        }

        void copyFrom(Tug other) {
            strength = other.strength;
            aircraft = other.aircraft;
            minutesLeft = other.minutesLeft;
            pushes = other.pushes;
            tows = other.tows;
        }

        void take(int number, int minutes) {
            aircraft = number;
            minutesLeft = minutes;
        }

        int answer(int what) {
            switch (what) {
                case 0: return strength;
                case 1: return aircraft;
                case 2: return minutesLeft;
                case 3: return pushes;
                default: return tows;
            }
        }
    }

    /** The latest events, in rows that are written round and round. */
    private static final class Log {
        final int[] kinds = new int[MOST_EVENTS];
        final int[] minutes = new int[MOST_EVENTS];
        final int[] numbers = new int[MOST_EVENTS];
        /** All events so far, those that are no longer kept too. */
        int total;

        void put(int kind, int minute, int number) {
            int place = total % MOST_EVENTS;
            kinds[place] = kind;
            minutes[place] = minute;
            numbers[place] = number;
            total++;
        }

        int kept() {
            return Math.min(total, MOST_EVENTS);
        }

        /** Of the event before which so many later ones are; the caller has looked that it is kept. */
        int answer(int index, int what) {
            int place = (total - 1 - index) % MOST_EVENTS;
            switch (what) {
                case 0: return kinds[place];
                case 1: return minutes[place];
                default: return numbers[place];
            }
        }

        void copyFrom(Log other) {
            System.arraycopy(other.kinds, 0, kinds, 0, MOST_EVENTS);
            System.arraycopy(other.minutes, 0, minutes, 0, MOST_EVENTS);
            System.arraycopy(other.numbers, 0, numbers, 0, MOST_EVENTS);
            total = other.total;
        }
    }

    /** Everything that undo restores. */
    private static final class Field {
        final Stand[] stands = new Stand[MOST_STANDS];
        final Tug[] tugs = new Tug[MOST_TUGS];
        final Aircraft[] aircraft = new Aircraft[MOST_AIRCRAFT];
        final Log log = new Log();
        int standCount;
        int tugCount;
        int aircraftCount;
        int minute;
        int curfewBegin;
        int curfewEnd;

        Field() {
            for (int i = 0; i < MOST_STANDS; i++) {
                stands[i] = new Stand();
            }
            for (int i = 0; i < MOST_TUGS; i++) {
                tugs[i] = new Tug();
            }
            for (int i = 0; i < MOST_AIRCRAFT; i++) {
                aircraft[i] = new Aircraft();
            }
            build(STANDS_AT_FIRST, TUGS_AT_FIRST);
        }

        void build(int newStands, int newTugs) {
            standCount = newStands;
            tugCount = newTugs;
            for (int i = 0; i < standCount; i++) {
                stands[i].span = SPAN_AT_FIRST;
            }
            for (int i = 0; i < tugCount; i++) {
                tugs[i].strength = STRENGTH_AT_FIRST;
            }
            restart();
        }

        /** Spans, strengths and the curfew stay. */
        void restart() {
            for (int i = 0; i < standCount; i++) {
                stands[i].restart();
            }
            for (int i = 0; i < tugCount; i++) {
                tugs[i].restart();
            }
            aircraftCount = 0;
            minute = 0;
            log.total = 0;
        }

        void copyFrom(Field other) {
            standCount = other.standCount;
            tugCount = other.tugCount;
            aircraftCount = other.aircraftCount;
            minute = other.minute;
            curfewBegin = other.curfewBegin;
            curfewEnd = other.curfewEnd;
            for (int i = 0; i < standCount; i++) {
                stands[i].copyFrom(other.stands[i]);
            }
            for (int i = 0; i < tugCount; i++) {
                tugs[i].copyFrom(other.tugs[i]);
            }
            for (int i = 0; i < aircraftCount; i++) {
                aircraft[i].copyFrom(other.aircraft[i]);
            }
            log.copyFrom(other.log);
        }

        boolean hasStand(int number) {
            return number >= 0 && number < standCount;
        }

        boolean hasTug(int number) {
            return number >= 0 && number < tugCount;
        }

        boolean hasAircraft(int number) {
            return number >= 0 && number < aircraftCount;
        }

        void add(int kind, int comes, int leaves, int passengers) {
            if (aircraftCount < MOST_AIRCRAFT) {
                aircraft[aircraftCount].tell(kind, comes, leaves, passengers);
                aircraftCount++;
            }
        }

        void addTug(int strength) {
            if (tugCount < MOST_TUGS) {
                tugs[tugCount].strength = strength;
                tugs[tugCount].restart();
                tugCount++;
            }
        }

        /**
         * Lets a minute pass, and if nothing happens in it, those after it too in which nothing can happen, as most of
         * the 3000 minutes of a question are like the minute before. Answers how many they were, at most so many.
         */
        int passSome(int most) {
            int eventsBefore = log.total;
            workTugs();
            receive();
            pushBack();
            tow();
            int quiet = 0;
            if (log.total == eventsBefore) {
                quiet = Math.max(0, Math.min(quietMinutes(), most - 1));
            }
            for (int i = 0; i < tugCount; i++) {
                if (tugs[i].aircraft != NONE) {
                    tugs[i].minutesLeft -= quiet;
                }
            }
            countMinutes(1 + quiet);
            minute += 1 + quiet;
            return 1 + quiet;
        }

        /**
         * How many minutes after this one, in which nothing happened, must be like it: until a tug gets free, an
         * aircraft comes or wants to leave, or the curfew ends. (A tow can only begin when one of these has happened.)
         */
        private int quietMinutes() {
            int next = minute + LONGEST_QUESTION;
            for (int i = 0; i < tugCount; i++) {
                if (tugs[i].aircraft != NONE) {
                    next = Math.min(next, minute + tugs[i].minutesLeft);
                }
            }
            for (int i = 0; i < aircraftCount; i++) {
                Aircraft one = aircraft[i];
                if (one.place == EXPECTED) {
                    next = Math.min(next, one.comes);
                } else if (one.isOnStandOrBay() && one.leaves > minute) {
                    next = Math.min(next, one.leaves);
                }
            }
            if (isCurfew()) {
                next = Math.min(next, minute - minute % DAY + curfewEnd);
            }
            return next - minute - 1;
        }

        private void workTugs() {
            for (int i = 0; i < tugCount; i++) {
                Tug tug = tugs[i];
                if (tug.aircraft != NONE) {
                    tug.minutesLeft--;
                    if (tug.minutesLeft == 0) {
                        finish(tug.aircraft);
                        tug.aircraft = NONE;
                    }
                }
            }
        }

        private void finish(int number) {
            Aircraft one = aircraft[number];
            if (one.place == TOWED) {
                one.place = ON_STAND;
                log.put(TOW_ENDS, minute, number);
                return;
            }
            one.place = GONE;
            if (one.stand != NONE) {
                stands[one.stand].aircraft = NONE;
                one.stand = NONE;
            }
            log.put(HAS_GONE, minute, number);
        }

        private void receive() {
            for (int i = 0; i < aircraftCount; i++) {
                Aircraft one = aircraft[i];
                if (one.place == EXPECTED && one.comes <= minute) {
                    int stand = freeStandFor(one.span);
                    if (stand == NONE) {
                        one.place = ON_BAY;
                        one.takeBuses();
                        log.put(AT_BAY, minute, i);
                    } else {
                        one.place = ON_STAND;
                        one.stand = stand;
                        stands[stand].aircraft = i;
                        log.put(AT_STAND, minute, i);
                    }
                }
            }
        }

        private void pushBack() {
            int last = NONE;
            for (int i = 0; i < aircraftCount; i++) {
                int number = nextToLeave(last);
                if (number == NONE) {
                    return;
                }
                if (reason(number) == WOULD_BE_PUSHED) {
                    beginPush(number);
                }
                last = turn(number);
            }
        }

        /** The higher, the later its turn: by its minute of leaving, then by its number. */
        private int turn(int number) {
            return aircraft[number].leaves * MOST_AIRCRAFT + number;
        }

        private int nextToLeave(int last) {
            int next = NONE;
            for (int i = 0; i < aircraftCount; i++) {
                Aircraft one = aircraft[i];
                if (one.isOnStandOrBay() && one.leaves <= minute && turn(i) > last
                        && (next == NONE || turn(i) < turn(next))) {
                    next = i;
                }
            }
            return next;
        }

        private void beginPush(int number) {
            Aircraft one = aircraft[number];
            int tug = freeTugFor(one.weight);
            if (tug == NONE) {
                return;
            }
            if (one.place == ON_BAY) {
                one.takeBuses();
            }
            one.place = PUSHED;
            one.delay = minute - one.leaves;
            tugs[tug].take(number, PUSH_MINUTES);
            tugs[tug].pushes++;
            log.put(PUSH_BEGINS, minute, number);
        }

        private void tow() {
            for (int i = 0; i < aircraftCount; i++) {
                Aircraft one = aircraft[i];
                if (one.place == ON_BAY && one.leaves > minute + TOW_AHEAD) {
                    int stand = freeStandFor(one.span);
                    int tug = freeTugFor(one.weight);
                    if (stand != NONE && tug != NONE) {
                        one.place = TOWED;
                        one.stand = stand;
                        stands[stand].aircraft = i;
                        tugs[tug].take(i, TOW_MINUTES);
                        tugs[tug].tows++;
                        log.put(TOW_BEGINS, minute, i);
                    }
                }
            }
        }

        private void countMinutes(int minutes) {
            for (int i = 0; i < standCount; i++) {
                Stand stand = stands[i];
                if (stand.aircraft != NONE) {
                    stand.minutes += minutes;
                    aircraft[stand.aircraft].minutes += minutes;
                }
            }
        }

        private int freeStandFor(int span) {
            int best = NONE;
            for (int i = 0; i < standCount; i++) {
                if (stands[i].aircraft == NONE && stands[i].span >= span
                        && (best == NONE || stands[i].span < stands[best].span)) {
                    best = i;
                }
            }
            return best;
        }

        private int freeTugFor(int weight) {
            int best = NONE;
            for (int i = 0; i < tugCount; i++) {
                if (tugs[i].aircraft == NONE && tugs[i].strength >= weight
                        && (best == NONE || tugs[i].strength < tugs[best].strength)) {
                    best = i;
                }
            }
            return best;
        }

        /** Why an aircraft is not pushed back in this minute, as things are. */
        int reason(int number) {
            Aircraft one = aircraft[number];
            if (one.place == EXPECTED) {
                return STILL_EXPECTED;
            }
            if (one.place == TOWED) {
                return BEING_TOWED;
            }
            if (!one.isOnStandOrBay()) {
                return PUSHED_ALREADY;
            }
            if (one.leaves > minute) {
                return TOO_EARLY;
            }
            if (isCurfew()) {
                return CURFEW;
            }
            if (one.stand != NONE && (isPushedFrom(one.stand - 1) || isPushedFrom(one.stand + 1))) {
                return NEIGHBOR;
            }
            return freeTugFor(one.weight) == NONE ? NO_TUG : WOULD_BE_PUSHED;
        }

        private boolean isCurfew() {
            int time = minute % DAY;
            return time >= curfewBegin && time < curfewEnd;
        }

        private boolean isPushedFrom(int stand) {
            return stand >= 0 && stand < standCount && stands[stand].aircraft != NONE
                    && aircraft[stands[stand].aircraft].place == PUSHED;
        }

        /** Answers the minutes that it took; NONE if that would be too many for a question. */
        int passUntilAllGone() {
            int passed = 0;
            for (int i = 0; i < LONGEST_QUESTION && passed < LONGEST_QUESTION && !areAllGone(); i++) {
                passed += passSome(LONGEST_QUESTION - passed);
            }
            return areAllGone() ? passed : NONE;
        }

        private boolean areAllGone() {
            return countAt(GONE) == aircraftCount;
        }

        int countAt(int place) {
            int count = 0;
            for (int i = 0; i < aircraftCount; i++) {
                if (aircraft[i].place == place) {
                    count++;
                }
            }
            return count;
        }

        int sumOfDelays() {
            int sum = 0;
            for (int i = 0; i < aircraftCount; i++) {
                sum += Math.max(0, aircraft[i].delay);
            }
            return sum;
        }

        private int greatestDelay() {
            int greatest = 0;
            for (int i = 0; i < aircraftCount; i++) {
                greatest = Math.max(greatest, aircraft[i].delay);
            }
            return greatest;
        }

        int sumOfBuses() {
            int sum = 0;
            for (int i = 0; i < aircraftCount; i++) {
                sum += aircraft[i].buses;
            }
            return sum;
        }

        int standAnswer(int number, int what) {
            switch (what) {
                case 0: return stands[number].span;
                case 1: return stands[number].aircraft;
                case 2: return isPushedFrom(number) ? 1 : 0;
                default: return stands[number].minutes;
            }
        }

        int answer(int what) {
            switch (what) {
                case 0: return standCount;
                case 1: return tugCount;
                case 2: return aircraftCount;
                case 3: return minute;
                case 4: return curfewBegin;
                case 5: return curfewEnd;
                case 12: return sumOfDelays();
                case 13: return greatestDelay();
                case 14: return sumOfBuses();
                case 15: return log.kept();
                default: return countAt(what - 6);
            }
        }
    }

    /** The text, and what was read from it at last. */
    private static final class Timetable {
        final int[] bytes = new int[MOST_BYTES];
        int length;
        final int[] kinds = new int[MOST_AIRCRAFT];
        final int[] comes = new int[MOST_AIRCRAFT];
        final int[] leaves = new int[MOST_AIRCRAFT];
        final int[] passengers = new int[MOST_AIRCRAFT];
        int count;
        private int position;
        private int number;

        void add(int value) {
            if (length < MOST_BYTES) {
                bytes[length] = value;
                length++;
            }
        }

        /** Answers the syntax error position, or NONE. */
        int read() {
            position = 0;
            count = 0;
            for (int i = 0; i < MOST_AIRCRAFT && position < length; i++) {
                int error = readAircraft(i);
                if (error != NONE) {
                    return error;
                }
                count++;
            }
            return position < length ? position : NONE;
        }

        private int readAircraft(int row) {
            int span = digitHere();
            if (isOutside(span, 1, MOST_SPAN)) {
                return position;
            }
            position++;
            int weight = digitHere();
            if (isOutside(weight, 1, MOST_STRENGTH)) {
                return position;
            }
            position++;
            kinds[row] = 10 * span + weight;
            int error = readMinutes(row);
            if (error != NONE) {
                return error;
            }
            passengers[row] = PASSENGERS_UNTOLD;
            if (byteHere() == 'p') {
                position++;
                error = readNumber(3, 0, MOST_PASSENGERS);
                if (error != NONE) {
                    return error;
                }
                passengers[row] = number;
            }
            return readSign(';');
        }

        private int readMinutes(int row) {
            int error = readNumber(4, 0, LAST_LEAVING);
            if (error != NONE) {
                return error;
            }
            comes[row] = number;
            error = readSign(',');
            if (error != NONE) {
                return error;
            }
            error = readNumber(4, comes[row] + 1, LAST_LEAVING);
            leaves[row] = number;
            return error;
        }

        private int readSign(int sign) {
            if (byteHere() != sign) {
                return position;
            }
            position++;
            return NONE;
        }

        /** A digit too many comes before the range: the range is looked at when the number has ended. */
        private int readNumber(int mostDigits, int least, int most) {
            int first = position;
            number = 0;
            for (int i = 0; i < mostDigits && digitHere() != NONE; i++) {
                number = 10 * number + digitHere();
                position++;
            }
            if (position == first || digitHere() != NONE) {
                return position;
            }
            return isOutside(number, least, most) ? first : NONE;
        }

        private int byteHere() {
            return position < length ? bytes[position] : NONE;
        }

        private int digitHere() {
            int here = byteHere();
            return isOutside(here, '0', '9') ? NONE : here - '0';
        }
    }
}
