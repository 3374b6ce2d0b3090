/**
 * The trace of a run: intervals that lie in one another along a line of events; some become stale
 * and are run again, what lies in them before goes, but for what is taken up again as it was.
 *
 * <p>An event is written as 2 * number of its interval, 1 more for an end. All rows are made once,
 * in the constructor, so that no call makes an object, but for the exception that of throws.
 *
 * <p>What keeps every index in its row: an interval has at most two events in the line; an open one
 * begins in front of the cursor, so it is never erased; the frames' intervals lie in one another
 * around the cursor, so these are never erased either; the first frame never goes.
 */
public final class TraceLine {
    public static final int NONE = -1;

    private static final int MOST_INTERVALS = 600;
    private static final int MOST_EVENTS = 2 * MOST_INTERVALS;
    private static final int MOST_FRAMES = 64;
    private static final int MOST_WEIGHT = 1000000000;

    private static final int FIRST = 0;
    private static final int RERUN = 1;
    private static final int TAKEN = 2;

    // By an interval's number. A start at NONE says that no interval has the number.
    private final int[] keys;
    private final int[] weights;
    private final int[] startAt;
    private final int[] endAt;
    private final boolean[] staleMark;
    private int intervals;
    private int staleOnes;

    private final int[] line;
    private int events;
    private int cursor;

    // The weight of the whole is never asked for alone, so it is held in this sum only.
    private int weightInAll;

    private final int[] frameInterval;
    private final int[] frameKind;
    // How many intervals were open when the frame was put upon the others.
    private final int[] frameOpenBelow;
    private int frames;

    // One stack serves all frames: a frame with an open interval can't go, so the last frame's are on top.
    private final int[] open;
    private int openOnes;

    public TraceLine() {
        keys = new int[MOST_INTERVALS];
        weights = new int[MOST_INTERVALS];
        startAt = new int[MOST_INTERVALS];
        endAt = new int[MOST_INTERVALS];
        staleMark = new boolean[MOST_INTERVALS];
        line = new int[MOST_EVENTS];
        frameInterval = new int[MOST_FRAMES];
        frameKind = new int[MOST_FRAMES];
        frameOpenBelow = new int[MOST_FRAMES];
        open = new int[MOST_INTERVALS];
        makeEmpty();
    }

    public int begin(int key) {
        int i = leastFreeNumber();
        if (i == NONE || lastKind() == TAKEN || openOnes >= MOST_INTERVALS) {
            return NONE;
        }
        keys[i] = key;
        weights[i] = 0;
        endAt[i] = NONE;
        staleMark[i] = false;
        intervals++;
        putAtCursor(2 * i);
        open[openOnes] = i;
        openOnes++;
        return i;
    }

    public int end() {
        int i = lastOpen();
        if (i == NONE) {
            return NONE;
        }
        putAtCursor(2 * i + 1);
        openOnes--;
        return i;
    }

    public boolean weigh(int n) {
        // The sum is not made before the test, for it could wrap around.
        if (n < 0 || lastKind() == TAKEN || n > MOST_WEIGHT - weightInAll) {
            return false;
        }
        int i = lastOpen();
        if (i == NONE) {
            i = lastInterval();
        }
        if (i != NONE) {
            weights[i] += n;
        }
        weightInAll += n;
        return true;
    }

    public boolean stale(int i) {
        if (!isThere(i) || !isEnded(i) || staleMark[i]) {
            return false;
        }
        staleMark[i] = true;
        staleOnes++;
        return true;
    }

    public int resume() {
        if (lastKind() == RERUN || lastOpen() != NONE || frames >= MOST_FRAMES) {
            return NONE;
        }
        int i = firstStaleAhead();
        if (i == NONE) {
            return NONE;
        }
        staleMark[i] = false;
        staleOnes--;
        weightInAll -= weights[i];
        weights[i] = 0;
        putFrame(i, RERUN);
        return i;
    }

    public int take(int key) {
        if (lastKind() != RERUN || frames >= MOST_FRAMES) {
            return NONE;
        }
        int i = firstFreshAhead(key);
        if (i == NONE) {
            return NONE;
        }
        erase(cursor, startAt[i]);
        putFrame(i, TAKEN);
        return i;
    }

    public int done() {
        int i = lastInterval();
        if (i == NONE || lastOpen() != NONE) {
            return NONE;
        }
        if (lastKind() == RERUN) {
            erase(cursor, endAt[i]);
        }
        frames--;
        cursor = endAt[i] + 1;
        return i;
    }

    public boolean toEnd() {
        if (!mayMove()) {
            return false;
        }
        cursor = events;
        return true;
    }

    public boolean toBegin() {
        if (!mayMove()) {
            return false;
        }
        cursor = 0;
        return true;
    }

    public void wipe() {
        makeEmpty();
    }

    public int of(int i, int what) throws IllegalArgumentException {
        if (!isThere(i)) {
            throw new IllegalArgumentException("no such interval");
        }
        switch (what) {
            case 0: return keys[i];
            case 1: return weights[i];
            case 2: return stateOf(i);
            case 3: return startAt[i];
            case 4: return endAt[i];
            case 5: return innermostAround(i);
            case 6: return weightWithin(i);
            default: throw new IllegalArgumentException("no such what");
        }
    }

    public int event(int k) {
        return k >= 0 && k < events ? line[k] : NONE;
    }

    public int look(int which) {
        switch (which) {
            case 0: return intervals;
            case 1: return events;
            case 2: return cursor;
            case 3: return frames;
            case 4: return weightInAll;
            case 5: return staleOnes;
            case 6: return lastInterval();
            case 7: return lastOpen();
            case 8: return lastKind();
            case 9: return aheadUpTo() - cursor;
            default: return NONE;
        }
    }

    private void makeEmpty() {
        for (int i = 0; i < MOST_INTERVALS; i++) {
            startAt[i] = NONE;
        }
        intervals = 0;
        staleOnes = 0;
        events = 0;
        cursor = 0;
        weightInAll = 0;
        frameInterval[0] = NONE;
        frameKind[0] = FIRST;
        frameOpenBelow[0] = 0;
        frames = 1;
        openOnes = 0;
    }

    // ---- intervals

    private boolean isThere(int i) {
        return i >= 0 && i < MOST_INTERVALS && startAt[i] != NONE;
    }

    private boolean isEnded(int i) {
        return endAt[i] != NONE;
    }

    private int leastFreeNumber() {
        for (int i = 0; i < MOST_INTERVALS; i++) {
            if (startAt[i] == NONE) {
                return i;
            }
        }
        return NONE;
    }

    private int stateOf(int i) {
        if (!isEnded(i)) {
            return 0;
        }
        return staleMark[i] ? 2 : 1;
    }

    private int innermostAround(int i) {
        // Going back from the start, the first that is not over before it is the innermost.
        for (int place = startAt[i] - 1; place >= 0; place--) {
            int around = line[place] / 2;
            if (isStart(line[place]) && (!isEnded(around) || endAt[around] > startAt[i])) {
                return around;
            }
        }
        return NONE;
    }

    private int weightWithin(int i) {
        int upTo = isEnded(i) ? endAt[i] : events;
        int sum = 0;
        for (int place = startAt[i]; place < upTo; place++) {
            if (isStart(line[place])) {
                sum += weights[line[place] / 2];
            }
        }
        return sum;
    }

    // ---- the line

    private static boolean isStart(int event) {
        return event % 2 == 0;
    }

    private void setPlace(int event, int place) {
        line[place] = event;
        if (isStart(event)) {
            startAt[event / 2] = place;
        } else {
            endAt[event / 2] = place;
        }
    }

    private void putAtCursor(int event) {
        if (events >= MOST_EVENTS) {
            return;
        }
        for (int place = events; place > cursor; place--) {
            setPlace(line[place - 1], place);
        }
        setPlace(event, cursor);
        events++;
        cursor++;
    }

    /** Leaves the cursor to the caller, who sets it anew behind an event that stays. */
    private void erase(int from, int upTo) {
        for (int place = from; place < upTo; place++) {
            forget(line[place] / 2);
        }
        int kept = 0;
        for (int place = 0; place < events; place++) {
            if (isThere(line[place] / 2)) {
                setPlace(line[place], kept);
                kept++;
            }
        }
        events = kept;
    }

    private void forget(int i) {
        if (!isThere(i)) {
            return;
        }
        if (staleMark[i]) {
            staleOnes--;
        }
        weightInAll -= weights[i];
        startAt[i] = NONE;
        intervals--;
    }

    private int firstStaleAhead() {
        int upTo = aheadUpTo();
        for (int place = cursor; place < upTo; place++) {
            if (isStart(line[place]) && staleMark[line[place] / 2]) {
                return line[place] / 2;
            }
        }
        return NONE;
    }

    private int firstFreshAhead(int key) {
        int upTo = aheadUpTo();
        for (int place = cursor; place < upTo; place++) {
            int i = line[place] / 2;
            boolean fits = isStart(line[place]) && keys[i] == key && !staleMark[i];
            if (fits && isEnded(i) && endAt[i] < upTo) {
                return i;
            }
        }
        return NONE;
    }

    private int aheadUpTo() {
        int i = lastInterval();
        return i == NONE ? events : endAt[i];
    }

    private boolean mayMove() {
        return frames == 1 && lastOpen() == NONE;
    }

    // ---- frames

    private int lastInterval() {
        return frameInterval[frames - 1];
    }

    private int lastKind() {
        return frameKind[frames - 1];
    }

    private int lastOpen() {
        return openOnes > frameOpenBelow[frames - 1] ? open[openOnes - 1] : NONE;
    }

    private void putFrame(int i, int kind) {
        if (frames >= MOST_FRAMES) {
            return;
        }
        frameInterval[frames] = i;
        frameKind[frames] = kind;
        frameOpenBelow[frames] = openOnes;
        frames++;
        cursor = startAt[i] + 1;
    }
}
