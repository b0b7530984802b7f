/** A bridge on a gantry that measures strains by rosettes of three gauges. */
public final class RosetteGantry {
    /** There is no such rosette or gauge. */
    public static final int UNKNOWN = -1000001;
    /** Another argument is out of range. */
    public static final int BAD_VALUE = -1000002;
    /** The call is refused, for a reason. */
    public static final int REFUSED = -1000003;
    /** There is no such thing; not an error. */
    public static final int NONE = -1000004;

    private static final int MOST_ROSETTES = 8;
    private static final int GAUGES = 3;
    private static final int MOST_JOBS = 20;
    private static final int MOST_RECORDS = 12;
    private static final int MOST_STATES = 5;
    private static final int MOST_SIGNS = 60;
    private static final int DIRECTIONS = 24;

    private static final int GREATEST_PLACE = 1000;
    private static final int GREATEST_STRAIN = 5000;
    private static final int GREATEST_LEADS = 20000;
    private static final int GREATEST_OFFSET = 9999;
    private static final int GREATEST_ZERO = 15000;
    private static final int GREATEST_READING = 30000;
    private static final int GREATEST_URGENCY = 9;
    private static final int USUAL_URGENCY = 5;
    private static final int FIRST_GAIN = 1000;
    private static final int FIRST_SIZE = 100;

    private static final int READ = 0;
    private static final int BALANCE = 1;
    private static final int SHUNT_CHECK = 2;

    private static final int NO_REASON = 0;
    private static final int NO_ROOM = 1;
    private static final int OVERLOADED = 2;
    private static final int ZERO_TOO_FAR = 3;
    private static final int SHUNT_IS_ON = 4;
    private static final int NO_STEP = 5;
    private static final int PLACE_IS_TAKEN = 6;

    // The columns of a job are in the order in which job() tells them, those of a record as record() does.
    private static final int COLUMNS = 4;
    private static final int JOB_NUMBER = 0;
    private static final int JOB_KIND = 1;
    private static final int JOB_ROSETTE = 2;
    private static final int JOB_URGENCY = 3;

    private static final int NO_FAULT = -1;
    private static final int FIRST_FAULT = -100;

    private static final int[] COSINES = {
        10000, 9659, 8660, 7071, 5000, 2588, 0, -2588, -5000, -7071, -8660, -9659,
        -10000, -9659, -8660, -7071, -5000, -2588, 0, 2588, 5000, 7071, 8660, 9659};
    private static final int[] SINES = {
        0, 2588, 5000, 7071, 8660, 9659, 10000, 9659, 8660, 7071, 5000, 2588,
        0, -2588, -5000, -7071, -8660, -9659, -10000, -9659, -8660, -7071, -5000, -2588};

    private final State state;
    private final State snapshot;
    private boolean hasSnapshot;
    private final History history;
    private final JobText text;
    private int reason;

    // The rows of these two are used again by each call, so that no call makes objects.
    private final Plan plan;
    private final Measure measure;

    /** Creates a gantry without rosettes. */
    public RosetteGantry() {
        state = new State();
        snapshot = new State();
        history = new History();
        text = new JobText();
        plan = new Plan();
        measure = new Measure();
    }

    // ---- rosettes

    /** Adds a rosette; its number, BAD_VALUE or REFUSED. */
    public int addRosette(int place, boolean delta, int resistance, int factor) {
        boolean known = resistance == 120 || resistance == 350;
        if (!isWithin(place, 0, GREATEST_PLACE) || !known || !isWithin(factor, 180, 240)) {
            return BAD_VALUE;
        }
        int number = state.rosettesUsed;
        if (number < 0 || number >= state.rosettes.length) {
            return refuse(NO_ROOM);
        }
        if (state.hasRosetteAt(place)) {
            return refuse(PLACE_IS_TAKEN);
        }
        history.add(state);
        state.rosettes[number].begin(place, delta, resistance, factor);
        state.rosettesUsed++;
        return number;
    }

    /** Sets the strain; the number of gauges whose readings change, UNKNOWN, BAD_VALUE or NONE. */
    public int setStrain(int rosette, int x, int y, int g) {
        Rosette found = state.find(rosette);
        if (found == null) {
            return UNKNOWN;
        }
        if (!isAround0(x, GREATEST_STRAIN) || !isAround0(y, GREATEST_STRAIN) || !isAround0(g, GREATEST_STRAIN)) {
            return BAD_VALUE;
        }
        if (found.x == x && found.y == y && found.g == g) {
            return NONE;
        }
        history.add(state);
        measure.take(found, state.size);
        measure.holdReadings();
        found.x = x;
        found.y = y;
        found.g = g;
        measure.take(found, state.size);
        return measure.readingsChanged();
    }

    /** Sets the leads; the previous number, UNKNOWN, BAD_VALUE or NONE. */
    public int setLeads(int rosette, int leads) {
        Rosette found = state.find(rosette);
        if (found == null) {
            return UNKNOWN;
        }
        if (!isWithin(leads, 0, GREATEST_LEADS)) {
            return BAD_VALUE;
        }
        int previous = found.leads;
        if (previous == leads) {
            return NONE;
        }
        history.add(state);
        found.leads = leads;
        return previous;
    }

    /** Sets the offset of a gauge; the previous offset, UNKNOWN, BAD_VALUE or NONE. */
    public int setOffset(int rosette, int gauge, int offset) {
        Rosette found = state.find(rosette);
        if (found == null || gauge < 0 || gauge >= found.offset.length) {
            return UNKNOWN;
        }
        if (!isAround0(offset, GREATEST_OFFSET)) {
            return BAD_VALUE;
        }
        int previous = found.offset[gauge];
        if (previous == offset) {
            return NONE;
        }
        history.add(state);
        found.offset[gauge] = offset;
        return previous;
    }

    /** Switches the shunt for a rosette; the reading of the gauge 0 then, UNKNOWN or NONE. */
    public int setShunt(int rosette, boolean on) {
        Rosette found = state.find(rosette);
        if (found == null) {
            return UNKNOWN;
        }
        if (found.shunt == on) {
            return NONE;
        }
        history.add(state);
        found.shunt = on;
        measure.take(found, state.size);
        return measure.reading[0];
    }

    /** Sets the size of the shunt; the previous size, BAD_VALUE or NONE. */
    public int setSize(int size) {
        if (!isWithin(size, 20, 500)) {
            return BAD_VALUE;
        }
        int previous = state.size;
        if (previous == size) {
            return NONE;
        }
        history.add(state);
        state.size = size;
        return previous;
    }

    // ---- jobs

    /** Requests a job; its number, UNKNOWN, BAD_VALUE or REFUSED. */
    public int request(int kind, int rosette, int urgency) {
        if (state.find(rosette) == null) {
            return UNKNOWN;
        }
        if (!isWithin(kind, READ, SHUNT_CHECK) || !isWithin(urgency, 0, GREATEST_URGENCY)) {
            return BAD_VALUE;
        }
        if (state.jobs.used >= MOST_JOBS) {
            return refuse(NO_ROOM);
        }
        history.add(state);
        return state.addJob(kind, rosette, urgency);
    }

    /** Takes back the jobs for a rosette; how many there were, UNKNOWN or NONE. */
    public int cancel(int rosette) {
        if (state.find(rosette) == null) {
            return UNKNOWN;
        }
        int waiting = state.jobsFor(rosette);
        if (waiting == 0) {
            return NONE;
        }
        history.add(state);
        state.dropJobsFor(rosette);
        return waiting;
    }

    /** Does the next job; its number, or NONE. */
    public int next() {
        if (state.jobs.used == 0) {
            return NONE;
        }
        history.add(state);
        plan.begin(state);
        plan.goOn(state);
        int number = state.jobs.at(plan.row, JOB_NUMBER);
        doJob(plan.row);
        return number;
    }

    /** Does all jobs that wait; how many were not refused, or NONE. */
    public int workOff() {
        int waiting = state.jobs.used;
        if (waiting == 0) {
            return NONE;
        }
        history.add(state);
        int refusedBefore = state.refused;
        for (int i = 0; i < waiting; i++) {
            plan.begin(state);
            plan.goOn(state);
            doJob(plan.row);
        }
        return waiting - (state.refused - refusedBefore);
    }

    // ---- texts

    /** Types a character behind the text; the length then, or REFUSED. */
    public int type(char character) {
        return text.append(character) ? text.length : refuse(NO_ROOM);
    }

    /** Empties the text; the length that it had. */
    public int clearText() {
        int length = text.length;
        text.length = 0;
        return length;
    }

    /** Requests the jobs of the text; how many, -100 minus the fault, UNKNOWN or REFUSED. */
    public int readJobs() {
        int fault = text.findFault();
        if (fault != NO_FAULT) {
            return FIRST_FAULT - fault;
        }
        Rows wanted = text.jobs;
        for (int i = 0; i < wanted.used; i++) {
            if (state.find(wanted.at(i, JOB_ROSETTE)) == null) {
                return UNKNOWN;
            }
        }
        if (state.jobs.used + wanted.used > MOST_JOBS) {
            return refuse(NO_ROOM);
        }
        history.add(state);
        for (int i = 0; i < wanted.used; i++) {
            state.addJob(wanted.at(i, JOB_KIND), wanted.at(i, JOB_ROSETTE), wanted.at(i, JOB_URGENCY));
        }
        return wanted.used;
    }

    // ---- history

    /** Restores the latest state of the history; the number of states left, or NONE. */
    public int undo() {
        State latest = history.takeLatest();
        if (latest == null) {
            return NONE;
        }
        state.copyFrom(latest);
        return history.used;
    }

    /** Takes a snapshot; the number of rosettes. */
    public int keep() {
        snapshot.copyFrom(state);
        hasSnapshot = true;
        return state.rosettesUsed;
    }

    /** Restores the snapshot; the number of rosettes then, or NONE. */
    public int restore() {
        if (!hasSnapshot) {
            return NONE;
        }
        history.add(state);
        state.copyFrom(snapshot);
        return state.rosettesUsed;
    }

    // ---- what is told

    /** Tells a number of a rosette; UNKNOWN or BAD_VALUE. */
    public int rosette(int rosette, int what) {
        Rosette found = state.find(rosette);
        if (found == null) {
            return UNKNOWN;
        }
        measure.take(found, state.size);
        switch (what) {
            case 0: return found.place;
            case 1: return found.delta ? 1 : 0;
            case 2: return found.resistance;
            case 3: return found.factor;
            case 4: return found.leads;
            case 5: return found.x;
            case 6: return found.y;
            case 7: return found.g;
            case 8: return found.shunt ? 1 : 0;
            case 9: return measure.shuntValue;
            case 10: return measure.overloads;
            case 11: return state.jobsFor(rosette);
            default: return BAD_VALUE;
        }
    }

    /** Tells a number of a gauge; UNKNOWN or BAD_VALUE. */
    public int gauge(int rosette, int gauge, int what) {
        Rosette found = state.find(rosette);
        if (found == null || !isWithin(gauge, 0, GAUGES - 1)) {
            return UNKNOWN;
        }
        measure.take(found, state.size);
        switch (what) {
            case 0: return found.offset[gauge];
            case 1: return measure.strain[gauge];
            case 2: return measure.signal[gauge];
            case 3: return measure.reading[gauge];
            case 4: return found.zero[gauge];
            case 5: return found.gain[gauge];
            case 6: return measure.corrected[gauge];
            case 7: return measure.step[gauge];
            default: return BAD_VALUE;
        }
    }

    /** Tells a number of the principal strains of a rosette; UNKNOWN or BAD_VALUE. */
    public int principal(int rosette, int what) {
        Rosette found = state.find(rosette);
        if (found == null) {
            return UNKNOWN;
        }
        measure.take(found, state.size);
        switch (what) {
            case 0: return measure.mean + measure.radius;
            case 1: return measure.mean - measure.radius;
            case 2: return measure.direction;
            case 3: return measure.radius;
            case 4: return measure.x;
            case 5: return measure.y;
            case 6: return measure.g;
            case 7: return measure.mean;
            default: return BAD_VALUE;
        }
    }

    /** Tells the pull of a direction / 20000; UNKNOWN or BAD_VALUE. */
    public int pull(int rosette, int direction) {
        Rosette found = state.find(rosette);
        if (found == null) {
            return UNKNOWN;
        }
        if (!isWithin(direction, 0, DIRECTIONS - 1)) {
            return BAD_VALUE;
        }
        measure.take(found, state.size);
        return (int) (measure.pullTo(direction) / 20000);
    }

    /** Tells of a job that waits, in the order of doing; BAD_VALUE or NONE. */
    public int job(int job, int what) {
        if (job < 0 || !isWithin(what, 0, COLUMNS)) {
            return BAD_VALUE;
        }
        if (job >= state.jobs.used) {
            return NONE;
        }
        plan.begin(state);
        for (int i = 0; i <= job; i++) {
            plan.goOn(state);
        }
        return what == COLUMNS ? plan.way : state.jobs.at(plan.row, what);
    }

    /** Tells of a record, the latest first; BAD_VALUE or NONE. */
    public int record(int record, int what) {
        if (record < 0 || !isWithin(what, 0, COLUMNS - 1)) {
            return BAD_VALUE;
        }
        int kept = state.records.used;
        return record >= kept ? NONE : state.records.at(kept - 1 - record, what);
    }

    /** Finds the nearest rosette beyond a place; BAD_VALUE or NONE. */
    public int neighbour(int place, boolean up) {
        if (!isWithin(place, 0, GREATEST_PLACE)) {
            return BAD_VALUE;
        }
        int nearest = NONE;
        int nearestWay = GREATEST_PLACE + 1;
        for (int i = 0; i < state.rosettesUsed; i++) {
            int way = up ? state.placeOf(i) - place : place - state.placeOf(i);
            if (way > 0 && way < nearestWay) {
                nearest = i;
                nearestWay = way;
            }
        }
        return nearest;
    }

    /** Tells a number of the whole; BAD_VALUE. */
    public int count(int what) {
        switch (what) {
            case 0: return state.rosettesUsed;
            case 1: return state.jobs.used;
            case 2: return state.requests;
            case 3: return state.done;
            case 4: return state.refused;
            case 5: return state.place;
            case 6: return state.way;
            case 7: return state.size;
            case 8: return state.records.used;
            case 9: return reason;
            case 10: return history.used;
            case 11: return text.length;
            default: return BAD_VALUE;
        }
    }

    // ---- the doing of jobs

    private void doJob(int row) {
        int kind = state.jobs.at(row, JOB_KIND);
        int number = state.jobs.at(row, JOB_ROSETTE);
        Rosette found = state.find(number);
        state.jobs.drop(row);
        if (found == null) {
            return;
        }
        state.goTo(found.place);
        measure.take(found, state.size);
        int against = reasonAgainst(kind, found);
        int result = NONE;
        if (against == NO_REASON) {
            result = perform(kind, found);
        } else {
            reason = against;
            state.refused++;
        }
        state.done++;
        state.leaveRecord(kind, number, result, against);
    }

    private int reasonAgainst(int kind, Rosette found) {
        switch (kind) {
            case READ: return measure.overloads > 0 ? OVERLOADED : NO_REASON;
            case BALANCE: return reasonAgainstBalance(found);
            default: return reasonAgainstCheck();
        }
    }

    private int reasonAgainstBalance(Rosette found) {
        if (found.shunt) {
            return SHUNT_IS_ON;
        }
        for (int i = 0; i < GAUGES; i++) {
            if (!isAround0(found.zero[i] + measure.signal[i], GREATEST_ZERO)) {
                return ZERO_TOO_FAR;
            }
        }
        return NO_REASON;
    }

    private int reasonAgainstCheck() {
        if (measure.checkOverloads) {
            return OVERLOADED;
        }
        for (int i = 0; i < GAUGES; i++) {
            if (measure.step[i] == 0) {
                return NO_STEP;
            }
        }
        return NO_REASON;
    }

    private int perform(int kind, Rosette found) {
        switch (kind) {
            case READ: return measure.mean + measure.radius;
            case BALANCE: return setZeros(found);
            default: return setGains(found);
        }
    }

    private int setZeros(Rosette found) {
        int changed = 0;
        for (int i = 0; i < GAUGES; i++) {
            int zero = found.zero[i] + measure.signal[i];
            if (zero != found.zero[i]) {
                found.zero[i] = zero;
                changed++;
            }
        }
        return changed;
    }

    private int setGains(Rosette found) {
        int changed = 0;
        for (int i = 0; i < GAUGES; i++) {
            int gain = (int) quotient(measure.shuntValue * 1000L, measure.step[i]);
            if (gain != found.gain[i]) {
                found.gain[i] = gain;
                changed++;
            }
        }
        return changed;
    }

    private int refuse(int why) {
        reason = why;
        return REFUSED;
    }

    private static boolean isWithin(int number, int least, int greatest) {
        return number >= least && number <= greatest;
    }

    private static boolean isAround0(int number, int greatest) {
        return isWithin(number, -greatest, greatest);
    }

    /** Divides towards 0; 0 for the divisor 0, which no state of the gantry has, so that no division can throw. */
    private static long quotient(long number, long divisor) {
        return divisor == 0 ? 0 : number / divisor;
    }

    /** A rosette as it was set up; what the bridge makes of it is told by Measure. */
    private static final class Rosette {
        int place;
        boolean delta;
        int resistance;
        int factor;
        int leads;
        int x;
        int y;
        int g;
        boolean shunt;
        final int[] offset = new int[GAUGES];
        final int[] zero = new int[GAUGES];
        final int[] gain = new int[GAUGES];

        void begin(int newPlace, boolean newDelta, int newResistance, int newFactor) {
            place = newPlace;
            delta = newDelta;
            resistance = newResistance;
            factor = newFactor;
            leads = 0;
            x = 0;
            y = 0;
            g = 0;
            shunt = false;
            for (int i = 0; i < GAUGES; i++) {
                offset[i] = 0;
                zero[i] = 0;
                gain[i] = FIRST_GAIN;
            }
        }

        void copyFrom(Rosette other) {
            place = other.place;
            delta = other.delta;
            resistance = other.resistance;
            factor = other.factor;
            leads = other.leads;
            x = other.x;
            y = other.y;
            g = other.g;
            shunt = other.shunt;
            for (int i = 0; i < GAUGES; i++) {
                offset[i] = other.offset[i];
                zero[i] = other.zero[i];
                gain[i] = other.gain[i];
            }
        }
    }

    /** Rows of four numbers in one array, which is copied at once. */
    private static final class Rows {
        final int[] cells;
        int used;

        Rows(int most) {
            cells = new int[Math.max(most, 0) * COLUMNS];
        }

        void add(int first, int second, int third, int fourth) {
            int start = used * COLUMNS;
            if (start < 0 || start + COLUMNS > cells.length) {
                return;
            }
            cells[start] = first;
            cells[start + 1] = second;
            cells[start + 2] = third;
            cells[start + 3] = fourth;
            used++;
        }

        int at(int row, int column) {
            if (row < 0 || row >= used || !isWithin(column, 0, COLUMNS - 1)) {
                return NONE;
            }
            return cells[row * COLUMNS + column];
        }

        void set(int row, int column, int value) {
            if (row >= 0 && row < used && isWithin(column, 0, COLUMNS - 1)) {
                cells[row * COLUMNS + column] = value;
            }
        }

        void drop(int row) {
            if (row < 0 || row >= used) {
                return;
            }
            int behind = (row + 1) * COLUMNS;
            System.arraycopy(cells, behind, cells, row * COLUMNS, used * COLUMNS - behind);
            used--;
        }

        void copyFrom(Rows other) {
            if (other.cells.length == cells.length) {
                System.arraycopy(other.cells, 0, cells, 0, cells.length);
                used = other.used;
            }
        }
    }

    /** All that undo and restore bring back. */
    private static final class State {
        final Rosette[] rosettes = new Rosette[MOST_ROSETTES];
        final Rows jobs = new Rows(MOST_JOBS);
        final Rows records = new Rows(MOST_RECORDS);
        int rosettesUsed;
        int size = FIRST_SIZE;
        int place;
        int way;
        int requests;
        int done;
        int refused;

        State() {
            for (int i = 0; i < MOST_ROSETTES; i++) {
                rosettes[i] = new Rosette();
            }
        }

        void copyFrom(State other) {
            for (int i = 0; i < MOST_ROSETTES; i++) {
                rosettes[i].copyFrom(other.rosettes[i]);
            }
            jobs.copyFrom(other.jobs);
            records.copyFrom(other.records);
            rosettesUsed = other.rosettesUsed;
            size = other.size;
            place = other.place;
            way = other.way;
            requests = other.requests;
            done = other.done;
            refused = other.refused;
        }

        /** The rosette of this number, or null. */
        Rosette find(int number) {
            if (number < 0 || number >= rosettesUsed || number >= rosettes.length) {
                return null;
            }
            return rosettes[number];
        }

        int placeOf(int number) {
            Rosette found = find(number);
            return found == null ? 0 : found.place;
        }

        boolean hasRosetteAt(int wanted) {
            for (int i = 0; i < rosettesUsed; i++) {
                if (placeOf(i) == wanted) {
                    return true;
                }
            }
            return false;
        }

        int addJob(int kind, int rosette, int urgency) {
            int number = requests;
            jobs.add(number, kind, rosette, urgency);
            requests++;
            return number;
        }

        int jobsFor(int rosette) {
            int waiting = 0;
            for (int row = 0; row < jobs.used; row++) {
                if (jobs.at(row, JOB_ROSETTE) == rosette) {
                    waiting++;
                }
            }
            return waiting;
        }

        void dropJobsFor(int rosette) {
            // Backwards, because the rows behind a dropped one move up.
            for (int row = jobs.used - 1; row >= 0; row--) {
                if (jobs.at(row, JOB_ROSETTE) == rosette) {
                    jobs.drop(row);
                }
            }
        }

        void goTo(int newPlace) {
            way += Math.abs(newPlace - place);
            place = newPlace;
        }

        void leaveRecord(int kind, int rosette, int result, int against) {
            if (records.used >= MOST_RECORDS) {
                records.drop(0);
            }
            records.add(kind, rosette, result, against);
        }
    }

    /** The states that undo can bring back, the oldest first. */
    private static final class History {
        final State[] states = new State[MOST_STATES];
        int used;

        History() {
            for (int i = 0; i < MOST_STATES; i++) {
                states[i] = new State();
            }
        }

        void add(State state) {
            if (used >= MOST_STATES) {
                dropOldest();
            }
            if (used >= 0 && used < states.length) {
                states[used].copyFrom(state);
                used++;
            }
        }

        State takeLatest() {
            if (used <= 0 || used > states.length) {
                return null;
            }
            used--;
            return states[used];
        }

        private void dropOldest() {
            State oldest = states[0];
            for (int i = 1; i < MOST_STATES; i++) {
                states[i - 1] = states[i];
            }
            states[MOST_STATES - 1] = oldest;
            used = MOST_STATES - 1;
        }
    }

    /** Goes through the jobs that wait in the order in which they would be done. */
    private static final class Plan {
        final boolean[] passed = new boolean[MOST_JOBS];
        int row;
        int place;
        int way;

        void begin(State state) {
            for (int i = 0; i < MOST_JOBS; i++) {
                passed[i] = false;
            }
            row = -1;
            place = state.place;
            way = 0;
        }

        /** Goes on to the next job; the row is -1 behind the last one. */
        void goOn(State state) {
            row = -1;
            for (int other = 0; other < state.jobs.used && other < MOST_JOBS; other++) {
                if (!passed[other] && (row < 0 || isAhead(state, other, row))) {
                    row = other;
                }
            }
            if (row >= 0) {
                passed[row] = true;
                int there = state.placeOf(state.jobs.at(row, JOB_ROSETTE));
                way += Math.abs(there - place);
                place = there;
            }
        }

        private boolean isAhead(State state, int one, int other) {
            Rows jobs = state.jobs;
            int moreUrgent = jobs.at(one, JOB_URGENCY) - jobs.at(other, JOB_URGENCY);
            if (moreUrgent != 0) {
                return moreUrgent > 0;
            }
            int farther = distance(state, one) - distance(state, other);
            if (farther != 0) {
                return farther < 0;
            }
            return jobs.at(one, JOB_NUMBER) < jobs.at(other, JOB_NUMBER);
        }

        private int distance(State state, int of) {
            return Math.abs(state.placeOf(state.jobs.at(of, JOB_ROSETTE)) - place);
        }
    }

    /** The text of jobs, and the jobs that were found in it. */
    private static final class JobText {
        // What may come next in the text.
        private static final int LETTER = 0;
        private static final int ROSETTE = 1;
        private static final int MARK_OR_COMMA = 2;
        private static final int URGENCY = 3;
        private static final int COMMA = 4;
        private static final int NOTHING = 5;

        final int[] signs = new int[MOST_SIGNS];
        final Rows jobs = new Rows(MOST_JOBS);
        int length;
        private int kind;

        /** Tells whether there was room. */
        boolean append(char sign) {
            if (length < 0 || length >= signs.length) {
                return false;
            }
            signs[length] = sign;
            length++;
            return true;
        }

        /** Finds the jobs; the fault of the text, or NO_FAULT. */
        int findFault() {
            jobs.used = 0;
            int due = LETTER;
            for (int i = 0; i < length && i < signs.length; i++) {
                due = take(signs[i], due);
                if (due == NOTHING) {
                    return i;
                }
            }
            return due == MARK_OR_COMMA || due == COMMA ? NO_FAULT : length;
        }

        /** Takes one sign; what may come after it, NOTHING if the sign itself may not stand. */
        private int take(int sign, int due) {
            switch (due) {
                case LETTER: return takeLetter(sign);
                case ROSETTE: return takeRosette(sign);
                case MARK_OR_COMMA: return sign == '!' ? URGENCY : takeComma(sign);
                case URGENCY: return takeUrgency(sign);
                case COMMA: return takeComma(sign);
                default: return NOTHING;
            }
        }

        private int takeLetter(int sign) {
            switch (sign) {
                case 'r': kind = READ; break;
                case 'b': kind = BALANCE; break;
                case 's': kind = SHUNT_CHECK; break;
                default: return NOTHING;
            }
            return ROSETTE;
        }

        private int takeRosette(int sign) {
            if (!isWithin(sign, '0', '7')) {
                return NOTHING;
            }
            jobs.add(0, kind, sign - '0', USUAL_URGENCY);
            return MARK_OR_COMMA;
        }

        private int takeUrgency(int sign) {
            if (!isWithin(sign, '0', '9')) {
                return NOTHING;
            }
            jobs.set(jobs.used - 1, JOB_URGENCY, sign - '0');
            return COMMA;
        }

        private int takeComma(int sign) {
            return sign == ',' ? LETTER : NOTHING;
        }
    }

    /** What the bridge tells of one rosette as it stands. */
    private static final class Measure {
        final int[] strain = new int[GAUGES];
        final int[] signal = new int[GAUGES];
        final int[] reading = new int[GAUGES];
        final int[] heldReading = new int[GAUGES];
        final int[] step = new int[GAUGES];
        final int[] corrected = new int[GAUGES];
        int shuntValue;
        int overloads;
        boolean checkOverloads;
        int x;
        int y;
        int g;
        int mean;
        int direction;
        int radius;

        void take(Rosette of, int size) {
            shuntValue = (int) quotient(of.resistance * 1000000L, of.resistance + 1000L * size);
            overloads = 0;
            checkOverloads = false;
            findStrains(of);
            for (int i = 0; i < GAUGES; i++) {
                findSignal(of, i);
                corrected[i] = (int) quotient((long) reading[i] * of.gain[i] / 1000 * 100, of.factor);
            }
            if (of.delta) {
                findDeltaNumbers();
            } else {
                findRightNumbers();
            }
            findPrincipal();
        }

        void holdReadings() {
            System.arraycopy(reading, 0, heldReading, 0, GAUGES);
        }

        int readingsChanged() {
            int changed = 0;
            for (int i = 0; i < GAUGES; i++) {
                if (reading[i] != heldReading[i]) {
                    changed++;
                }
            }
            return changed;
        }

        /** The pull of a direction, which must be one. */
        long pullTo(int to) {
            if (!isWithin(to, 0, DIRECTIONS - 1)) {
                return 0;
            }
            return (long) (x - y) * COSINES[to] + (long) g * SINES[to];
        }

        private void findStrains(Rosette of) {
            if (of.delta) {
                int middle = (of.x + 3 * of.y) / 4;
                int sheared = of.g * 433 / 1000;
                strain[0] = of.x;
                strain[1] = middle + sheared;
                strain[2] = middle - sheared;
            } else {
                strain[0] = of.x;
                strain[1] = (of.x + of.y + of.g) / 2;
                strain[2] = of.y;
            }
        }

        private void findSignal(Rosette of, int i) {
            int off = comesOut(of, of.offset[i]) + comesOut(of, strain[i] * of.factor / 100) - of.zero[i];
            int on = off + comesOut(of, shuntValue);
            signal[i] = of.shunt ? on : off;
            reading[i] = limited(signal[i]);
            step[i] = limited(on) - limited(off);
            if (isBeyond(signal[i])) {
                overloads++;
            }
            checkOverloads = checkOverloads || isBeyond(on) || isBeyond(off);
        }

        private static int comesOut(Rosette of, int number) {
            long bridge = of.resistance * 1000L;
            return (int) quotient(number * bridge, bridge + of.leads);
        }

        private static int limited(int number) {
            return Math.max(-GREATEST_READING, Math.min(GREATEST_READING, number));
        }

        private static boolean isBeyond(int number) {
            return !isAround0(number, GREATEST_READING);
        }

        private void findRightNumbers() {
            x = corrected[0];
            y = corrected[2];
            g = 2 * corrected[1] - corrected[0] - corrected[2];
        }

        private void findDeltaNumbers() {
            x = corrected[0];
            y = (2 * corrected[1] + 2 * corrected[2] - corrected[0]) / 3;
            g = (int) ((corrected[1] - corrected[2]) * 11547L / 10000);
        }

        private void findPrincipal() {
            mean = (x + y) / 2;
            direction = 0;
            long greatest = pullTo(0);
            for (int i = 1; i < DIRECTIONS; i++) {
                long pulled = pullTo(i);
                if (pulled > greatest) {
                    direction = i;
                    greatest = pulled;
                }
            }
            radius = (int) (greatest / 20000);
        }
    }
}
