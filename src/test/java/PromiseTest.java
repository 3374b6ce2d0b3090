import java.util.Arrays;

/**
 * For each promise of the document its ordinary runs, its edges and its wrong inputs. No object gets
 * more than the 512 calls that anything is promised for.
 */
public final class PromiseTest {
    private static final int NONE = TraceLine.NONE;
    private static final int MOST = 1000000000;
    private static int wrong = 0;
    private static String promise = "";

    private static void due(String what, int got, int want) {
        if (got != want) {
            tell(what, Integer.toString(got), Integer.toString(want));
        }
    }

    private static void due(String what, boolean got, boolean want) {
        if (got != want) {
            tell(what, Boolean.toString(got), Boolean.toString(want));
        }
    }

    private static void tell(String what, String got, String want) {
        wrong++;
        System.out.println(promise + ": " + what + " answered " + got + ", due is " + want);
    }

    private static void line(TraceLine t, int... want) {
        int[] got = new int[t.look(1)];
        for (int k = 0; k < got.length; k++) {
            got[k] = t.event(k);
        }
        if (!Arrays.equals(got, want)) {
            tell("the line", Arrays.toString(got), Arrays.toString(want));
        }
    }

    /** look(0) .. look(9) at once. */
    private static void looks(TraceLine t, int... want) {
        int[] got = new int[10];
        for (int which = 0; which < 10; which++) {
            got[which] = t.look(which);
        }
        if (!Arrays.equals(got, want)) {
            tell("look(0 .. 9)", Arrays.toString(got), Arrays.toString(want));
        }
    }

    private static void refused(TraceLine t, int i, int what) {
        boolean thrown = false;
        try {
            t.of(i, what);
        } catch (IllegalArgumentException e) {
            thrown = e.getClass() == IllegalArgumentException.class;
        }
        due("of(" + i + ", " + what + ") throws IllegalArgumentException", thrown, true);
    }

    /** All that can be asked of an object, for the test that a refused call changes nothing. */
    private static String picture(TraceLine t) {
        StringBuilder s = new StringBuilder();
        for (int which = 0; which < 10; which++) {
            s.append(t.look(which)).append(' ');
        }
        for (int k = 0; k < t.look(1); k++) {
            int e = t.event(k);
            s.append('[').append(e);
            for (int what = 0; what < 7 && e % 2 == 0; what++) {
                s.append(' ').append(t.of(e / 2, what));
            }
            s.append(']');
        }
        return s.toString();
    }

    private static void unchanged(String what, String before, TraceLine t) {
        String after = picture(t);
        if (!after.equals(before)) {
            tell(what + " changed the state, which", after, before);
        }
    }

    /** A digit begins an interval with that key, ')' ends the last open one. */
    private static TraceLine made(String shape) {
        TraceLine t = new TraceLine();
        play(t, shape);
        return t;
    }

    private static void play(TraceLine t, String shape) {
        for (char c : shape.toCharArray()) {
            if (c == ')') {
                t.end();
            } else {
                t.begin(c - '0');
            }
        }
    }

    /** 0 around 1 and 3, 1 around 2, 3 around 4; 5 behind. Each key is 1 more than the number, each weight 10 keys. */
    private static TraceLine sample() {
        TraceLine t = new TraceLine();
        for (char c : "123))45)))6)".toCharArray()) {
            if (c == ')') {
                t.end();
            } else {
                t.begin(c - '0');
                t.weigh(10 * (c - '0'));
            }
        }
        return t;
    }

    /** depth intervals in one another, all with key 7, the even numbers stale, the cursor at the beginning. */
    private static TraceLine nest(int depth) {
        TraceLine t = new TraceLine();
        for (int i = 0; i < depth; i++) {
            t.begin(7);
        }
        for (int i = 0; i < depth; i++) {
            t.end();
        }
        for (int i = 0; i < depth; i += 2) {
            t.stale(i);
        }
        t.toBegin();
        return t;
    }

    private static void newObject() {
        promise = "promise 1";
        TraceLine t = new TraceLine();
        due("NONE", TraceLine.NONE, -1);
        looks(t, 0, 0, 0, 1, 0, 0, NONE, NONE, 0, 0);
        line(t);
        refused(t, 0, 0);
        TraceLine other = new TraceLine();
        t.begin(1);
        t.weigh(5);
        looks(other, 0, 0, 0, 1, 0, 0, NONE, NONE, 0, 0);
    }

    private static void begin() {
        promise = "promise 2";
        TraceLine t = new TraceLine();
        due("begin", t.begin(-5), 0);
        due("begin", t.begin(Integer.MIN_VALUE), 1);
        due("begin", t.begin(Integer.MAX_VALUE), 2);
        due("key", t.of(0, 0), -5);
        due("key", t.of(1, 0), Integer.MIN_VALUE);
        due("key", t.of(2, 0), Integer.MAX_VALUE);
        due("weight at first", t.of(2, 1), 0);
        due("not ended", t.of(2, 2), 0);
        looks(t, 3, 3, 3, 1, 0, 0, NONE, 2, 0, 0);
        line(t, 0, 2, 4);
        beginInTheMiddle();
        beginWithFreedNumber();
        beginInTaken();
    }

    private static void beginInTheMiddle() {
        TraceLine t = sample();
        t.toBegin();
        due("begin at the beginning", t.begin(9), 6);
        line(t, 12, 0, 2, 4, 5, 3, 6, 8, 9, 7, 1, 10, 11);
        due("the cursor stands behind", t.look(2), 1);
        due("end", t.end(), 6);
        line(t, 12, 13, 0, 2, 4, 5, 3, 6, 8, 9, 7, 1, 10, 11);
        due("moved start", t.of(4, 3), 8);
        due("moved end", t.of(4, 4), 9);
        due("the cursor stands behind", t.look(2), 2);
    }

    private static void beginWithFreedNumber() {
        TraceLine t = sample();
        t.stale(1);
        t.toBegin();
        t.resume();
        t.begin(8);
        t.weigh(4);
        t.end();
        t.done();
        due("2 has gone", t.look(0), 6);
        due("the least free number", t.begin(9), 2);
        due("a new key", t.of(2, 0), 9);
        due("a new weight", t.of(2, 1), 0);
        due("no end of its forerunner", t.of(2, 4), NONE);
        due("then the next", t.begin(9), 7);

        t = made("12))");
        t.stale(0);
        t.stale(1);
        t.toBegin();
        t.resume();
        t.done();
        due("the number of a stale one", t.begin(9), 1);
        t.end();
        due("is not stale for it", t.of(1, 2), 1);
        due("none is stale", t.look(5), 0);
    }

    private static void beginInTaken() {
        TraceLine t = nest(3);
        t.resume();
        t.take(7);
        String before = picture(t);
        due("begin in a taken frame", t.begin(1), NONE);
        unchanged("begin", before, t);
        t.resume();
        due("begin in a rerun frame upon it", t.begin(1), 3);
    }

    private static void end() {
        promise = "promise 3";
        TraceLine t = new TraceLine();
        due("end without one", t.end(), NONE);
        t.begin(1);
        t.begin(2);
        due("end", t.end(), 1);
        due("end", t.end(), 0);
        String before = picture(t);
        due("end without one", t.end(), NONE);
        unchanged("end", before, t);
        line(t, 0, 2, 3, 1);
        due("ended", t.of(0, 2), 1);
        due("the cursor stands behind", t.look(2), 4);

        t = nest(3);
        t.resume();
        due("begin in the rerun", t.begin(5), 3);
        t.take(7);
        due("end in a taken frame leaves the lower frame's", t.end(), NONE);
        t.resume();
        due("end in the upper rerun leaves the lower frame's", t.end(), NONE);
        due("done", t.done(), 2);
        due("done", t.done(), 1);
        due("end goes around what was taken", t.end(), 3);
        line(t, 0, 6, 2, 4, 5, 3, 7, 1);
    }

    private static void weigh() {
        promise = "promise 4";
        TraceLine t = new TraceLine();
        due("weigh 0", t.weigh(0), true);
        due("weigh", t.weigh(3), true);
        due("weigh below 0", t.weigh(-1), false);
        due("weigh far below 0", t.weigh(Integer.MIN_VALUE), false);
        due("in all", t.look(4), 3);
        t.begin(1);
        t.weigh(4);
        t.begin(2);
        t.weigh(5);
        t.weigh(6);
        t.end();
        t.weigh(7);
        due("outer", t.of(0, 1), 11);
        due("inner", t.of(1, 1), 11);
        t.end();
        t.weigh(8);
        due("after the end", t.of(0, 1), 11);
        due("in all", t.look(4), 33);
        weighAtTheMost();
        weighInFrames();
    }

    private static void weighAtTheMost() {
        TraceLine t = new TraceLine();
        due("one too much", t.weigh(MOST + 1), false);
        due("far too much", t.weigh(Integer.MAX_VALUE), false);
        due("the most", t.weigh(MOST), true);
        due("one more", t.weigh(1), false);
        due("wraps around", t.weigh(Integer.MAX_VALUE), false);
        due("0 more", t.weigh(0), true);
        due("in all", t.look(4), MOST);

        t = new TraceLine();
        t.weigh(1);
        t.begin(1);
        due("the whole counts", t.weigh(MOST), false);
        due("up to the most", t.weigh(MOST - 1), true);
        due("of it", t.of(0, 6), MOST - 1);
        t.end();
        t.stale(0);
        t.toBegin();
        t.resume();
        due("after the rerun there is room", t.weigh(MOST - 1), true);
        due("and no more", t.weigh(1), false);
    }

    private static void weighInFrames() {
        TraceLine t = nest(3);
        t.resume();
        due("weigh in a rerun", t.weigh(5), true);
        due("its interval", t.of(0, 1), 5);
        t.begin(9);
        t.weigh(6);
        due("the open one in it", t.of(3, 1), 6);
        t.take(7);
        String before = picture(t);
        due("weigh in a taken frame", t.weigh(1), false);
        due("weigh 0 in a taken frame", t.weigh(0), false);
        unchanged("weigh", before, t);
        t.resume();
        due("weigh in the upper rerun", t.weigh(7), true);
        due("not the lower frame's open one", t.of(3, 1), 6);
        due("the upper frame's interval", t.of(2, 1), 7);
        due("in all", t.look(4), 18);
    }

    private static void stale() {
        promise = "promise 5";
        TraceLine t = made("12)");
        due("not ended", t.stale(0), false);
        due("none such", t.stale(2), false);
        due("below 0", t.stale(-1), false);
        due("far below 0", t.stale(Integer.MIN_VALUE), false);
        due("600", t.stale(600), false);
        due("far above", t.stale(Integer.MAX_VALUE), false);
        due("none stale", t.look(5), 0);
        due("ended", t.stale(1), true);
        due("is so", t.stale(1), false);
        due("one stale", t.look(5), 1);
        due("state", t.of(1, 2), 2);
        t.end();
        due("ended now", t.stale(0), true);
        due("two stale", t.look(5), 2);

        t = nest(3);
        t.resume();
        due("the rerun's own interval", t.stale(0), true);
        t.take(7);
        due("the taken one's own interval", t.stale(1), true);
        t.done();
        t.done();
        due("both stay stale", t.look(5), 3);
        due("its state", t.of(0, 2), 2);
    }

    private static void resume() {
        promise = "promise 6";
        TraceLine t = sample();
        t.weigh(1);
        t.stale(3);
        t.stale(5);
        t.stale(1);
        String before = picture(t);
        due("none ahead at the end", t.resume(), NONE);
        unchanged("resume", before, t);
        t.toBegin();
        due("the first along the line", t.resume(), 1);
        looks(t, 6, 12, 2, 2, 191, 2, 1, NONE, 1, 2);
        due("stale no more", t.of(1, 2), 1);
        due("its weight", t.of(1, 1), 0);
        due("what lies in it keeps its own", t.of(2, 1), 30);
        t.stale(2);
        before = picture(t);
        due("in a rerun frame", t.resume(), NONE);
        unchanged("resume", before, t);
        t.done();
        due("the next ahead", t.resume(), 3);
        t.done();
        t.begin(1);
        due("with one open", t.resume(), NONE);
        t.end();
        due("the last", t.resume(), 5);
        t.done();
        due("no more", t.resume(), NONE);
        due("none stale", t.look(5), 0);
        resumeAtTheLimit();
        resumeByTheLineNotByNumber();
        framesAtTheMost();
    }

    private static void resumeAtTheLimit() {
        // 5 lies behind the taken frame's limit, so it is not ahead there.
        TraceLine t = made("1234))))5)");
        t.stale(0);
        t.stale(4);
        t.toBegin();
        t.resume();
        due("take", t.take(2), 1);
        due("what is stale behind the limit", t.resume(), NONE);
        t.stale(1);
        due("its own start is not ahead", t.resume(), NONE);
        t.stale(3);
        due("within the limit", t.resume(), 3);
        due("frames", t.look(3), 4);
    }

    private static void resumeByTheLineNotByNumber() {
        TraceLine t = made("1)");
        t.toBegin();
        play(t, "2)");
        t.stale(0);
        t.stale(1);
        t.toBegin();
        due("the greater number begins first", t.resume(), 1);
    }

    private static void framesAtTheMost() {
        TraceLine t = nest(70);
        for (int i = 0; i < 63; i++) {
            due("frame", i % 2 == 0 ? t.resume() : t.take(7), i);
        }
        // Rerun and taken frames take turns upon the first, so the 64th is always a rerun one.
        looks(t, 70, 140, 63, 64, 0, 3, 62, NONE, 1, 14);
        due("take with 64 frames", t.take(7), NONE);
        due("resume with 64 frames", t.resume(), NONE);
        due("begin still goes", t.begin(3), 70);
        due("end still goes", t.end(), 70);
        for (int i = 62; i >= 0; i--) {
            due("done", t.done(), i);
        }
        due("what was not taken went", t.look(0), 64);
        due("one frame", t.look(3), 1);
    }

    private static void take() {
        promise = "promise 7";
        TraceLine t = sample();
        t.stale(0);
        t.stale(1);
        t.toBegin();
        String before = picture(t);
        due("in the first frame", t.take(4), NONE);
        unchanged("take", before, t);
        t.resume();
        before = picture(t);
        due("no such key", t.take(99), NONE);
        due("stale itself", t.take(2), NONE);
        due("its own interval", t.take(1), NONE);
        due("behind the limit", t.take(6), NONE);
        unchanged("take", before, t);
        due("one that lies in a stale one", t.take(3), 2);
        line(t, 0, 4, 5, 6, 8, 9, 7, 1, 10, 11);
        looks(t, 5, 10, 2, 3, 180, 0, 2, NONE, 2, 0);
        due("as it was", t.of(2, 1), 30);
        refused(t, 1, 0);
        before = picture(t);
        due("in a taken frame", t.take(4), NONE);
        unchanged("take", before, t);
        due("done", t.done(), 2);
        due("taken once", t.take(3), NONE);
        due("the next", t.take(5), 4);
        line(t, 0, 4, 5, 8, 9, 1, 10, 11);
        due("done", t.done(), 4);
        due("least free", t.begin(9), 1);
        takeTheFirst();
        takeWithOpen();
        takeInTaken();
    }

    private static void takeInTaken() {
        TraceLine t = made("123)))");
        t.stale(0);
        t.toBegin();
        t.resume();
        t.take(2);
        String before = picture(t);
        due("in a taken frame, with one ahead", t.take(3), NONE);
        unchanged("take", before, t);
    }

    private static void takeTheFirst() {
        // Keys: the outer 2 begins before the inner 2 and before the later one.
        TraceLine t = made("13)22))2))");
        t.stale(0);
        t.toBegin();
        t.resume();
        due("the one that begins first", t.take(2), 2);
        line(t, 0, 4, 6, 7, 5, 8, 9, 1);
        due("done", t.done(), 2);
        due("then the later one", t.take(2), 4);
        line(t, 0, 4, 6, 7, 5, 8, 9, 1);
        t.done();
        due("none is left", t.take(2), NONE);

        t = made("12)");
        t.end();
        t.stale(0);
        t.toBegin();
        t.resume();
        play(t, "5)");
        due("what was begun in the rerun is not ahead", t.take(5), NONE);
        due("with nothing between nothing goes", t.take(2), 1);
        line(t, 0, 4, 5, 2, 3, 1);
    }

    private static void takeWithOpen() {
        TraceLine t = made("1234))5)))");
        t.stale(0);
        t.toBegin();
        t.resume();
        t.begin(8);
        due("take with one open", t.take(4), 3);
        line(t, 0, 10, 6, 7, 8, 9, 1);
        due("the open one is the lower frame's", t.look(7), NONE);
        due("done", t.done(), 3);
        due("open again", t.look(7), 5);
        due("take", t.take(5), 4);
        t.done();
        due("end", t.end(), 5);
        line(t, 0, 10, 6, 7, 8, 9, 11, 1);
    }

    private static void done() {
        promise = "promise 8";
        TraceLine t = sample();
        String before = picture(t);
        due("the first frame", t.done(), NONE);
        unchanged("done", before, t);
        t.stale(0);
        t.stale(4);
        t.toBegin();
        t.resume();
        t.take(2);
        due("a taken frame goes", t.done(), 1);
        line(t, 0, 2, 4, 5, 3, 6, 8, 9, 7, 1, 10, 11);
        looks(t, 6, 12, 5, 2, 200, 1, 0, NONE, 1, 4);
        t.begin(9);
        before = picture(t);
        due("with one open", t.done(), NONE);
        unchanged("done", before, t);
        t.end();
        due("a rerun frame goes", t.done(), 0);
        line(t, 0, 2, 4, 5, 3, 12, 13, 1, 10, 11);
        looks(t, 5, 10, 8, 1, 110, 0, NONE, NONE, 0, 2);
        refused(t, 3, 0);
        refused(t, 4, 0);

        t = made("12)))");
        t.stale(0);
        t.toBegin();
        t.resume();
        due("nothing taken", t.done(), 0);
        line(t, 0, 1);
        due("cursor", t.look(2), 2);

        t = nest(3);
        t.resume();
        t.begin(4);
        t.take(7);
        due("only the last frame's open ones hinder", t.done(), 1);
        due("the lower one's hinder now", t.done(), NONE);
    }

    private static void toEnd() {
        promise = "promise 9";
        TraceLine t = new TraceLine();
        due("empty", t.toEnd(), true);
        t = sample();
        t.toBegin();
        due("from the beginning", t.toEnd(), true);
        due("cursor", t.look(2), 12);
        due("ahead", t.look(9), 0);
        due("again", t.toEnd(), true);
        t.stale(1);
        t.toBegin();
        t.resume();
        String before = picture(t);
        due("in another frame", t.toEnd(), false);
        unchanged("toEnd", before, t);
        t.take(3);
        due("in a taken frame", t.toEnd(), false);
        t.done();
        t.done();
        due("from the middle", t.look(2), 5);
        t.begin(4);
        due("with one open", t.toEnd(), false);
        due("cursor", t.look(2), 6);
        t.end();
        due("from the middle", t.toEnd(), true);
        due("cursor", t.look(2), 14);
    }

    private static void toBegin() {
        promise = "promise 10";
        TraceLine t = new TraceLine();
        due("empty", t.toBegin(), true);
        t = sample();
        due("from the end", t.toBegin(), true);
        due("cursor", t.look(2), 0);
        due("ahead", t.look(9), 12);
        due("again", t.toBegin(), true);
        t.stale(1);
        t.resume();
        String before = picture(t);
        due("in another frame", t.toBegin(), false);
        unchanged("toBegin", before, t);
        t.take(3);
        due("in a taken frame", t.toBegin(), false);
        t.done();
        t.done();
        t.begin(4);
        due("with one open", t.toBegin(), false);
        due("cursor", t.look(2), 6);
        t.end();
        due("from the middle", t.toBegin(), true);
        due("cursor", t.look(2), 0);
    }

    private static void wipe() {
        promise = "promise 11";
        TraceLine t = new TraceLine();
        t.wipe();
        looks(t, 0, 0, 0, 1, 0, 0, NONE, NONE, 0, 0);
        t = nest(5);
        t.weigh(9);
        t.resume();
        t.stale(0);
        t.begin(4);
        t.weigh(9);
        t.take(7);
        t.wipe();
        looks(t, 0, 0, 0, 1, 0, 0, NONE, NONE, 0, 0);
        line(t);
        for (int i = 0; i < 6; i++) {
            refused(t, i, 0);
            due("stale", t.stale(i), false);
        }
        due("end", t.end(), NONE);
        due("done", t.done(), NONE);
        due("toEnd", t.toEnd(), true);
        due("weigh", t.weigh(MOST), true);
        due("begin", t.begin(3), 0);
        due("key", t.of(0, 0), 3);
        due("weight", t.of(0, 1), 0);
        due("state", t.of(0, 2), 0);
        due("end of the one before", t.of(0, 4), NONE);
        due("end", t.end(), 0);
        due("not stale as the one before", t.of(0, 2), 1);
    }

    private static void of() {
        promise = "promise 12";
        TraceLine t = sample();
        int[][] want = {
            {1, 10, 1, 0, 9, NONE, 150}, {2, 20, 1, 1, 4, 0, 50}, {3, 30, 1, 2, 3, 1, 30},
            {4, 40, 1, 5, 8, 0, 90}, {5, 50, 1, 6, 7, 3, 50}, {6, 60, 1, 10, 11, NONE, 60}};
        for (int i = 0; i < 6; i++) {
            for (int what = 0; what < 7; what++) {
                due("of(" + i + ", " + what + ")", t.of(i, what), want[i][what]);
            }
        }
        String before = picture(t);
        for (int what : new int[] {-1, 7, Integer.MIN_VALUE, Integer.MAX_VALUE}) {
            refused(t, 0, what);
        }
        for (int i : new int[] {-1, 6, 599, 600, Integer.MIN_VALUE, Integer.MAX_VALUE}) {
            refused(t, i, 0);
            refused(t, i, 7);
        }
        unchanged("of", before, t);
        t.stale(4);
        due("stale", t.of(4, 2), 2);
        ofOpenOnes();
    }

    private static void ofOpenOnes() {
        TraceLine t = sample();
        t.stale(1);
        t.toBegin();
        t.begin(7);
        t.weigh(1);
        due("open", t.of(6, 2), 0);
        due("no end", t.of(6, 4), NONE);
        due("an open one is around all behind its start", t.of(0, 5), 6);
        due("also the last", t.of(5, 5), 6);
        due("and their weights lie in it", t.of(6, 6), 211);
        t.end();
        due("now it is around none", t.of(0, 5), NONE);
        due("its own weight", t.of(6, 6), 1);

        t.resume();
        t.begin(8);
        t.weigh(2);
        due("around the open one", t.of(7, 5), 1);
        due("the open one is the innermost", t.of(2, 5), 7);
        due("also behind the limit", t.of(3, 5), 7);
        due("an open one holds all behind it", t.of(7, 6), 2 + 30 + 40 + 50 + 60);
        due("an ended one holds up to its end", t.of(1, 6), 32);
        due("around both", t.of(0, 6), 10 + 32 + 90);
    }

    private static void event() {
        promise = "promise 13";
        TraceLine t = new TraceLine();
        due("empty", t.event(0), NONE);
        t = made("12)");
        due("start", t.event(0), 0);
        due("start", t.event(1), 2);
        due("end", t.event(2), 3);
        due("behind the last", t.event(3), NONE);
        due("below 0", t.event(-1), NONE);
        due("far below 0", t.event(Integer.MIN_VALUE), NONE);
        due("far above", t.event(Integer.MAX_VALUE), NONE);
        due("1199", t.event(1199), NONE);
        due("1200", t.event(1200), NONE);
        t.end();
        t.stale(0);
        t.toBegin();
        t.resume();
        t.done();
        due("moved up", t.event(1), 1);
        due("gone", t.event(2), NONE);
    }

    private static void look() {
        promise = "promise 14";
        TraceLine t = sample();
        t.weigh(5);
        looks(t, 6, 12, 12, 1, 215, 0, NONE, NONE, 0, 0);
        t.stale(0);
        t.stale(2);
        t.toBegin();
        looks(t, 6, 12, 0, 1, 215, 2, NONE, NONE, 0, 12);
        t.resume();
        looks(t, 6, 12, 1, 2, 205, 1, 0, NONE, 1, 8);
        t.begin(9);
        looks(t, 7, 13, 2, 2, 205, 1, 0, 6, 1, 8);
        t.take(2);
        looks(t, 7, 13, 3, 3, 205, 1, 1, NONE, 2, 2);
        t.resume();
        looks(t, 7, 13, 4, 4, 175, 0, 2, NONE, 1, 0);
        t.begin(9);
        t.begin(9);
        looks(t, 9, 15, 6, 4, 175, 0, 2, 8, 1, 0);
        for (int which : new int[] {-1, 10, Integer.MIN_VALUE, Integer.MAX_VALUE}) {
            due("look(" + which + ")", t.look(which), NONE);
        }
    }

    public static void main(String[] args) {
        newObject();
        begin();
        end();
        weigh();
        stale();
        resume();
        take();
        done();
        toEnd();
        toBegin();
        wipe();
        of();
        event();
        look();
        System.out.println(wrong == 0 ? "all promises are kept" : wrong + " answers are not as due");
        if (wrong != 0) {
            System.exit(1);
        }
    }
}
