import java.util.Arrays;
import java.util.NoSuchElementException;

/**
 * A runway on which movements land and take off one behind the other, with gaps that hang on all
 * that went before: the order with the least delay, exactly, and what becomes of it when something
 * changes.
 */
public final class RunwayDesk {
    public static final int NONE = -1;

    private static final int MOST_MOVEMENTS = 7;
    private static final int MOST_CLOSURES = 4;
    private static final int TYPES = 6;
    private static final int LAST_SECOND = 3000;
    private static final int GREATEST_WEIGHT = 100;
    private static final int GREATEST_LIMIT = 6;
    private static final int LEAST_GAP = 45;
    private static final int GREATEST_GAP = 300;
    private static final int FIRST_GAP = 60;

    private static final int CHANGED_NUMBER = 0;
    private static final int CHANGED_FROM = 1;
    private static final int CHANGED_TO = 2;

    private final State state;
    private final Search search;

    // Plans are rows of seconds by movement number, with NONE for a movement that they do not have.
    private final int[] result;
    private final int[] accepted;
    private final int[] trial;

    public RunwayDesk() {
        state = new State();
        search = new Search();
        result = new int[MOST_MOVEMENTS];
        accepted = new int[MOST_MOVEMENTS];
        trial = new int[MOST_MOVEMENTS];
        Arrays.fill(result, NONE);
        Arrays.fill(accepted, NONE);
    }

    public int gap(int a, int b, int seconds) throws IllegalArgumentException {
        if (!isType(a) || !isType(b) || !isBetween(seconds, LEAST_GAP, GREATEST_GAP)) {
            throw new IllegalArgumentException();
        }
        int before = state.gaps[a][b];
        state.gaps[a][b] = seconds;
        return before;
    }

    public int add(int type, int early, int target, int late, int weight)
            throws IllegalArgumentException, IllegalStateException {
        boolean isRange = 0 <= early && late <= LAST_SECOND && isBetween(target, early, late);
        if (!isType(type) || !isRange || !isBetween(weight, 0, GREATEST_WEIGHT)) {
            throw new IllegalArgumentException();
        }
        int m = state.leastFree();
        if (m == NONE) {
            throw new IllegalStateException();
        }
        state.there[m] = true;
        state.type[m] = type;
        state.early[m] = early;
        state.target[m] = target;
        state.late[m] = late;
        state.weight[m] = weight;
        state.frozen[m] = NONE;
        state.count++;
        return m;
    }

    public int remove(int m) throws java.util.NoSuchElementException {
        requireMovement(m);
        state.there[m] = false;
        state.count--;
        // Its number may be given again, to a movement that neither plan has.
        result[m] = NONE;
        accepted[m] = NONE;
        return state.count;
    }

    public int retarget(int m, int target)
            throws java.util.NoSuchElementException, IllegalArgumentException {
        requireMovement(m);
        requireInRange(m, target);
        int before = state.target[m];
        state.target[m] = target;
        return before;
    }

    public int limit(int places) throws IllegalArgumentException {
        if (!isBetween(places, 0, GREATEST_LIMIT)) {
            throw new IllegalArgumentException();
        }
        int before = state.mostPlaces;
        state.mostPlaces = places;
        return before;
    }

    public int close(int from, int to) throws IllegalArgumentException, IllegalStateException {
        if (from < 0 || to > LAST_SECOND || from > to) {
            throw new IllegalArgumentException();
        }
        if (state.closures >= MOST_CLOSURES) {
            throw new IllegalStateException();
        }
        state.closedFrom[state.closures] = from;
        state.closedTo[state.closures] = to;
        state.closures++;
        return state.closures;
    }

    public int reopen() {
        int before = state.closures;
        state.closures = 0;
        return before;
    }

    public void freeze(int m, int second)
            throws java.util.NoSuchElementException, IllegalArgumentException, IllegalStateException {
        requireMovement(m);
        requireInRange(m, second);
        if (state.isClosed(second) || state.isNearFrozen(m, second)) {
            throw new IllegalStateException();
        }
        state.frozen[m] = second;
    }

    public boolean thaw(int m) throws java.util.NoSuchElementException {
        requireMovement(m);
        boolean was = state.isFrozen(m);
        state.frozen[m] = NONE;
        return was;
    }

    public int solve() {
        int delay = search.leastDelay(state);
        if (delay != NONE) {
            search.copyBest(result);
        }
        return delay;
    }

    public int whatIf(int m, int target)
            throws java.util.NoSuchElementException, IllegalArgumentException {
        requireMovement(m);
        requireInRange(m, target);
        int before = state.target[m];
        state.target[m] = target;
        int delay = search.leastDelay(state);
        state.target[m] = before;
        return delay;
    }

    public int second(int m) throws java.util.NoSuchElementException, IllegalStateException {
        requireMovement(m);
        if (result[m] == NONE) {
            throw new IllegalStateException();
        }
        return result[m];
    }

    public int at(int i) throws IndexOutOfBoundsException {
        for (int m = 0; m < MOST_MOVEMENTS; m++) {
            if (result[m] != NONE && placeIn(result, m) == i) {
                return m;
            }
        }
        throw new IndexOutOfBoundsException();
    }

    public int place(int m) throws java.util.NoSuchElementException {
        requireMovement(m);
        return state.firstComePlace(m);
    }

    public int verify() {
        return state.leastUnsound(result);
    }

    public int firstCome() {
        return search.firstComeDelay(state);
    }

    public int bound() {
        return search.aloneDelay(state);
    }

    public int slack(int m) throws java.util.NoSuchElementException, IllegalStateException {
        requireMovement(m);
        if (state.leastUnsound(result) != NONE) {
            throw new IllegalStateException();
        }
        return latestSound(m) - result[m];
    }

    public int accept() {
        int changes = 0;
        for (int m = 0; m < MOST_MOVEMENTS; m++) {
            if (isChanged(m)) {
                changes++;
            }
        }
        System.arraycopy(result, 0, accepted, 0, MOST_MOVEMENTS);
        return changes;
    }

    public int change(int k, int what) throws IndexOutOfBoundsException, IllegalArgumentException {
        int m = changed(k);
        if (m == NONE) {
            throw new IndexOutOfBoundsException();
        }
        switch (what) {
            case CHANGED_NUMBER:
                return m;
            case CHANGED_FROM:
                return accepted[m];
            case CHANGED_TO:
                return result[m];
            default:
                throw new IllegalArgumentException();
        }
    }

    private void requireMovement(int m) {
        if (!state.has(m)) {
            throw new NoSuchElementException();
        }
    }

    private void requireInRange(int m, int second) {
        if (!state.isInRange(m, second)) {
            throw new IllegalArgumentException();
        }
    }

    private boolean isChanged(int m) {
        return accepted[m] != result[m];
    }

    private int changed(int k) {
        int before = 0;
        for (int m = 0; m < MOST_MOVEMENTS; m++) {
            if (isChanged(m)) {
                if (before == k) {
                    return m;
                }
                before++;
            }
        }
        return NONE;
    }

    /**
     * Only a few seconds can be the latest: one later has to be out of range, closed, or too near
     * before another movement. What is too near behind another one gets better by being later, and
     * the order changes only where movements are too near to each other.
     */
    private int latestSound(int m) {
        System.arraycopy(result, 0, trial, 0, MOST_MOVEMENTS);
        int latest = laterIfSound(m, result[m], state.late[m]);
        for (int c = 0; c < state.closures; c++) {
            latest = laterIfSound(m, latest, state.closedFrom[c] - 1);
        }
        for (int other = 0; other < MOST_MOVEMENTS; other++) {
            if (other != m && result[other] != NONE) {
                latest = laterIfSound(m, latest, result[other] - state.gapBehind(m, other));
            }
        }
        return latest;
    }

    private int laterIfSound(int m, int latest, int second) {
        if (second <= latest) {
            return latest;
        }
        trial[m] = second;
        return state.leastUnsound(trial) == NONE ? second : latest;
    }

    private static boolean isBetween(int value, int least, int greatest) {
        return least <= value && value <= greatest;
    }

    private static boolean isType(int type) {
        return isBetween(type, 0, TYPES - 1);
    }

    private static boolean isBefore(int[] seconds, int a, int b) {
        return seconds[a] < seconds[b] || seconds[a] == seconds[b] && a < b;
    }

    private static int placeIn(int[] plan, int m) {
        int before = 0;
        for (int other = 0; other < MOST_MOVEMENTS; other++) {
            if (plan[other] != NONE && isBefore(plan, other, m)) {
                before++;
            }
        }
        return before;
    }

    /** All that has been told to the desk: movements, gaps, closures and the limit. */
    private static final class State {
        final boolean[] there;
        final int[] type;
        final int[] early;
        final int[] target;
        final int[] late;
        final int[] weight;
        final int[] frozen;
        int count;

        final int[][] gaps;
        final int[] closedFrom;
        final int[] closedTo;
        int closures;
        int mostPlaces;

        State() {
            there = new boolean[MOST_MOVEMENTS];
            type = new int[MOST_MOVEMENTS];
            early = new int[MOST_MOVEMENTS];
            target = new int[MOST_MOVEMENTS];
            late = new int[MOST_MOVEMENTS];
            weight = new int[MOST_MOVEMENTS];
            frozen = new int[MOST_MOVEMENTS];
            gaps = new int[TYPES][TYPES];
            closedFrom = new int[MOST_CLOSURES];
            closedTo = new int[MOST_CLOSURES];
            mostPlaces = GREATEST_LIMIT;
            for (int a = 0; a < TYPES; a++) {
                Arrays.fill(gaps[a], FIRST_GAP);
            }
        }

        boolean has(int m) {
            return isBetween(m, 0, MOST_MOVEMENTS - 1) && there[m];
        }

        int leastFree() {
            for (int m = 0; m < MOST_MOVEMENTS; m++) {
                if (!there[m]) {
                    return m;
                }
            }
            return NONE;
        }

        boolean isInRange(int m, int second) {
            return isBetween(second, early[m], late[m]);
        }

        boolean isFrozen(int m) {
            return frozen[m] != NONE;
        }

        int gapBehind(int before, int behind) {
            return gaps[type[before]][type[behind]];
        }

        int delayAt(int m, int second) {
            return weight[m] * Math.max(0, second - target[m]);
        }

        int firstComePlace(int m) {
            int before = 0;
            for (int other = 0; other < MOST_MOVEMENTS; other++) {
                if (there[other] && isBefore(target, other, m)) {
                    before++;
                }
            }
            return before;
        }

        boolean mayStandAt(int m, int standing, int firstComePlace) {
            return isFrozen(m) || Math.abs(standing - firstComePlace) <= mostPlaces;
        }

        boolean isClosed(int second) {
            return closureAt(second) != NONE;
        }

        private int closureAt(int second) {
            for (int c = 0; c < closures; c++) {
                if (closedFrom[c] <= second && second <= closedTo[c]) {
                    return c;
                }
            }
            return NONE;
        }

        private int firstOpen(int second) {
            int open = second;
            int closure = closureAt(open);
            // The second only grows, so no closure is passed twice.
            for (int passed = 0; passed < closures && closure != NONE; passed++) {
                open = closedTo[closure] + 1;
                closure = closureAt(open);
            }
            return open;
        }

        /** The first second from the given one on that the movement could have, or NONE. */
        int firstSecond(int m, int from) {
            if (isFrozen(m)) {
                return from <= frozen[m] && !isClosed(frozen[m]) ? frozen[m] : NONE;
            }
            int open = firstOpen(Math.max(from, early[m]));
            return open <= late[m] ? open : NONE;
        }

        boolean isNearFrozen(int m, int second) {
            for (int other = 0; other < MOST_MOVEMENTS; other++) {
                if (other != m && there[other] && isFrozen(other)
                        && isTooNear(m, second, other, frozen[other])) {
                    return true;
                }
            }
            return false;
        }

        /** Movements of the same second are too near in either order, as no gap is 0. */
        private boolean isTooNear(int m, int second, int other, int otherSecond) {
            return second < otherSecond
                    ? otherSecond - second < gapBehind(m, other)
                    : second - otherSecond < gapBehind(other, m);
        }

        int leastUnsound(int[] plan) {
            for (int m = 0; m < MOST_MOVEMENTS; m++) {
                if (there[m] && !isSoundFor(m, plan)) {
                    return m;
                }
            }
            return NONE;
        }

        private boolean isSoundFor(int m, int[] plan) {
            int second = plan[m];
            if (second == NONE || !isInRange(m, second) || isClosed(second)) {
                return false;
            }
            if (isFrozen(m) && frozen[m] != second) {
                return false;
            }
            return !isTooNearBehind(m, plan) && mayStandAt(m, placeIn(plan, m), firstComePlace(m));
        }

        private boolean isTooNearBehind(int m, int[] plan) {
            for (int other = 0; other < MOST_MOVEMENTS; other++) {
                if (plan[other] != NONE && isBefore(plan, other, m)
                        && plan[m] - plan[other] < gapBehind(other, m)) {
                    return true;
                }
            }
            return false;
        }
    }

    /**
     * The search through the orders. Its rows are made once, so that no call makes new ones.
     *
     * <p>The row of a depth has the seconds of the movements that stand at the places before that
     * depth, and for each of the others the first second that it could have behind all of these.
     * More movements in front never let one come earlier, so the delay of a row is the least that
     * any order with this beginning can have, and at the last row it is that of the order itself.
     */
    private static final class Search {
        private final int[][] rows;
        private final int[] line;
        private final boolean[] standing;
        private final int[] best;
        private int least;

        Search() {
            rows = new int[MOST_MOVEMENTS + 1][MOST_MOVEMENTS];
            line = new int[MOST_MOVEMENTS];
            standing = new boolean[MOST_MOVEMENTS];
            best = new int[MOST_MOVEMENTS];
        }

        int leastDelay(State state) {
            begin(state);
            if (rowDelay(state, 0) != NONE) {
                tryPlace(state, 0);
            }
            return least;
        }

        int firstComeDelay(State state) {
            begin(state);
            int delay = rowDelay(state, 0);
            for (int depth = 0; depth < state.count && delay != NONE; depth++) {
                putAt(state, depth, line[depth]);
                delay = rowDelay(state, depth + 1);
            }
            return delay;
        }

        int aloneDelay(State state) {
            begin(state);
            return rowDelay(state, 0);
        }

        void copyBest(int[] plan) {
            System.arraycopy(best, 0, plan, 0, MOST_MOVEMENTS);
        }

        private void begin(State state) {
            least = NONE;
            for (int m = 0; m < MOST_MOVEMENTS; m++) {
                standing[m] = false;
                rows[0][m] = NONE;
                if (state.there[m]) {
                    line[state.firstComePlace(m)] = m;
                    rows[0][m] = state.firstSecond(m, 0);
                }
            }
        }

        /**
         * The orders come as the document compares them, so of those with the same delay the first
         * one is kept by letting only a lesser delay replace it.
         */
        private void tryPlace(State state, int depth) {
            if (depth >= state.count) {
                least = rowDelay(state, depth);
                System.arraycopy(rows[depth], 0, best, 0, MOST_MOVEMENTS);
                return;
            }
            for (int p = 0; p < state.count; p++) {
                int m = line[p];
                if (!standing[m] && state.mayStandAt(m, depth, p)) {
                    putAt(state, depth, m);
                    if (isWorthwhile(rowDelay(state, depth + 1))) {
                        tryPlace(state, depth + 1);
                    }
                    standing[m] = false;
                }
            }
        }

        private boolean isWorthwhile(int delay) {
            return delay != NONE && (least == NONE || delay < least);
        }

        private void putAt(State state, int depth, int m) {
            standing[m] = true;
            int[] row = rows[depth];
            int[] next = rows[depth + 1];
            for (int other = 0; other < MOST_MOVEMENTS; other++) {
                next[other] = row[other];
                if (state.there[other] && !standing[other]) {
                    int from = Math.max(row[other], row[m] + state.gapBehind(m, other));
                    next[other] = state.firstSecond(other, from);
                }
            }
        }

        /** NONE when a movement has no second in the row: behind more of them it has none either. */
        private int rowDelay(State state, int depth) {
            int sum = 0;
            for (int m = 0; m < MOST_MOVEMENTS; m++) {
                if (state.there[m]) {
                    if (rows[depth][m] == NONE) {
                        return NONE;
                    }
                    sum += state.delayAt(m, rows[depth][m]);
                }
            }
            return sum;
        }
    }
}
