import java.util.ArrayList;
import java.util.Arrays;
import java.util.List;
import java.util.Random;

/**
 * Long mixed runs of calls, each answer held against a slow model that is written from the document
 * alone: a list of events that know their interval, every count made anew at each call.
 */
public final class ModelTest {
    private static final int RUNS = 400;
    private static final int CALLS = 512;

    private static final class Interval {
        final int number;
        final int key;
        int weight;
        boolean stale;
        final Event start = new Event(this, false);
        final Event end = new Event(this, true);

        Interval(int number, int key) {
            this.number = number;
            this.key = key;
        }
    }

    private static final class Event {
        final Interval of;
        final boolean isEnd;

        Event(Interval of, boolean isEnd) {
            this.of = of;
            this.isEnd = isEnd;
        }
    }

    private static final class Frame {
        final Interval of;
        final int kind;
        final List<Interval> open = new ArrayList<>();

        Frame(Interval of, int kind) {
            this.of = of;
            this.kind = kind;
        }
    }

    private static final class Model {
        final List<Event> line = new ArrayList<>();
        final List<Frame> frames = new ArrayList<>();
        Event behind = null;
        long whole = 0;

        Model() {
            frames.add(new Frame(null, 0));
        }

        Frame last() {
            return frames.get(frames.size() - 1);
        }

        Interval lastOpen() {
            List<Interval> open = last().open;
            return open.isEmpty() ? null : open.get(open.size() - 1);
        }

        int cursor() {
            return behind == null ? 0 : line.indexOf(behind) + 1;
        }

        List<Interval> all() {
            List<Interval> all = new ArrayList<>();
            for (Event e : line) {
                if (!e.isEnd) {
                    all.add(e.of);
                }
            }
            return all;
        }

        Interval numbered(int i) {
            for (Interval one : all()) {
                if (one.number == i) {
                    return one;
                }
            }
            return null;
        }

        boolean ended(Interval i) {
            return line.contains(i.end);
        }

        boolean ahead(Event e) {
            int place = line.indexOf(e);
            return place >= cursor() && (last().of == null || place < line.indexOf(last().of.end));
        }

        void put(Event e) {
            line.add(cursor(), e);
            behind = e;
        }

        void erase(List<Event> events) {
            List<Interval> gone = new ArrayList<>();
            for (Event e : events) {
                gone.add(e.of);
            }
            for (Interval i : gone) {
                for (Frame f : frames) {
                    if (f.of == i || f.open.contains(i)) {
                        throw new AssertionError("a frame's or an open interval would be erased");
                    }
                }
                if (behind == i.start || behind == i.end) {
                    throw new AssertionError("the event in front of the cursor would be erased");
                }
            }
            line.removeIf(e -> gone.contains(e.of));
        }

        int begin(int key) {
            if (all().size() == 600 || last().kind == 2) {
                return -1;
            }
            int number = 0;
            while (numbered(number) != null) {
                number++;
            }
            Interval i = new Interval(number, key);
            put(i.start);
            last().open.add(i);
            return number;
        }

        int end() {
            Interval i = lastOpen();
            if (i == null) {
                return -1;
            }
            put(i.end);
            last().open.remove(i);
            return i.number;
        }

        long inAll() {
            long sum = whole;
            for (Interval i : all()) {
                sum += i.weight;
            }
            return sum;
        }

        int weigh(int n) {
            if (n < 0 || last().kind == 2 || inAll() + n > 1000000000L) {
                return 0;
            }
            Interval i = lastOpen() != null ? lastOpen() : last().of;
            if (i == null) {
                whole += n;
            } else {
                i.weight += n;
            }
            return 1;
        }

        int stale(int number) {
            Interval i = numbered(number);
            if (i == null || !ended(i) || i.stale) {
                return 0;
            }
            i.stale = true;
            return 1;
        }

        int resume() {
            if (last().kind == 1 || lastOpen() != null || frames.size() == 64) {
                return -1;
            }
            for (Interval i : all()) {
                if (i.stale && ahead(i.start)) {
                    i.stale = false;
                    i.weight = 0;
                    frames.add(new Frame(i, 1));
                    behind = i.start;
                    return i.number;
                }
            }
            return -1;
        }

        int take(int key) {
            if (last().kind != 1 || frames.size() == 64) {
                return -1;
            }
            for (Interval i : all()) {
                if (i.key == key && !i.stale && ended(i) && ahead(i.start) && ahead(i.end)) {
                    erase(new ArrayList<>(line.subList(cursor(), line.indexOf(i.start))));
                    frames.add(new Frame(i, 2));
                    behind = i.start;
                    return i.number;
                }
            }
            return -1;
        }

        int done() {
            if (frames.size() == 1 || lastOpen() != null) {
                return -1;
            }
            Frame f = last();
            if (f.kind == 1) {
                erase(new ArrayList<>(line.subList(cursor(), line.indexOf(f.of.end))));
            }
            frames.remove(f);
            behind = f.of.end;
            return f.of.number;
        }

        int move(boolean toEnd) {
            if (frames.size() > 1 || lastOpen() != null) {
                return 0;
            }
            behind = toEnd && !line.isEmpty() ? line.get(line.size() - 1) : null;
            return 1;
        }

        void wipe() {
            line.clear();
            frames.clear();
            frames.add(new Frame(null, 0));
            behind = null;
            whole = 0;
        }

        /** Null where of throws. */
        Integer of(int number, int what) {
            Interval i = numbered(number);
            if (i == null || what < 0 || what > 6) {
                return null;
            }
            int start = line.indexOf(i.start);
            switch (what) {
                case 0: return i.key;
                case 1: return i.weight;
                case 2: return !ended(i) ? 0 : i.stale ? 2 : 1;
                case 3: return start;
                case 4: return line.indexOf(i.end);
                case 5: return around(start);
                default: return sumWithin(i, start);
            }
        }

        int around(int start) {
            int innermost = -1;
            for (Interval j : all()) {
                boolean over = ended(j) && line.indexOf(j.end) < start;
                if (line.indexOf(j.start) < start && !over) {
                    innermost = j.number;
                }
            }
            return innermost;
        }

        int sumWithin(Interval i, int start) {
            int sum = i.weight;
            for (Interval j : all()) {
                int place = line.indexOf(j.start);
                if (place > start && (!ended(i) || place < line.indexOf(i.end))) {
                    sum += j.weight;
                }
            }
            return sum;
        }

        int event(int k) {
            if (k < 0 || k >= line.size()) {
                return -1;
            }
            return 2 * line.get(k).of.number + (line.get(k).isEnd ? 1 : 0);
        }

        int look(int which) {
            switch (which) {
                case 0: return all().size();
                case 1: return line.size();
                case 2: return cursor();
                case 3: return frames.size();
                case 4: return (int) inAll();
                case 5: return (int) all().stream().filter(i -> i.stale).count();
                case 6: return last().of == null ? -1 : last().of.number;
                case 7: return lastOpen() == null ? -1 : lastOpen().number;
                case 8: return last().kind;
                case 9: return (int) line.stream().filter(this::ahead).count();
                default: return -1;
            }
        }
    }

    private static int asInt(boolean b) {
        return b ? 1 : 0;
    }

    private static Integer ofOrNull(TraceLine t, int i, int what) {
        try {
            return t.of(i, what);
        } catch (IllegalArgumentException e) {
            return null;
        }
    }

    private static final List<String> told = new ArrayList<>();
    private static int calls = 0;

    private static boolean same(String call, Integer got, Integer want) {
        told.add(call + " = " + got);
        calls++;
        if (got == null ? want == null : got.equals(want)) {
            return true;
        }
        System.out.println(call + " answered " + got + ", due is " + want + ", after " + told);
        return false;
    }

    private static int someWeight(Random r) {
        switch (r.nextInt(20)) {
            case 0: return -1 - r.nextInt(5);
            case 1: return 1000000000;
            case 2: return 300000000;
            case 3: return Integer.MAX_VALUE;
            default: return r.nextInt(10);
        }
    }

    // How often each call comes, by the kind of the last frame, so that reruns get deep:
    // begin, end, weigh, stale, resume, take, done, toEnd, toBegin.
    private static final int[][] OFTEN = {
        {20, 30, 6, 20, 30, 1, 1, 2, 10},
        {12, 20, 5, 10, 1, 30, 3, 1, 1},
        {1, 1, 1, 30, 30, 1, 3, 1, 1}};

    private static int someCall(Random r, int kind) {
        int left = r.nextInt(Arrays.stream(OFTEN[kind]).sum());
        int call = 0;
        while (left >= OFTEN[kind][call]) {
            left -= OFTEN[kind][call];
            call++;
        }
        return call;
    }

    private static boolean step(TraceLine t, Model m, Random r) {
        int key = r.nextInt(4);
        int some = r.nextInt(m.all().size() + 3) - 1;
        int n = someWeight(r);
        if (r.nextInt(1000) == 0) {
            t.wipe();
            m.wipe();
            return same("wipe()", 0, 0);
        }
        switch (someCall(r, m.last().kind)) {
            case 0: return same("begin(" + key + ")", t.begin(key), m.begin(key));
            case 1: return same("end()", t.end(), m.end());
            case 2: return same("weigh(" + n + ")", asInt(t.weigh(n)), m.weigh(n));
            case 3: return same("stale(" + some + ")", asInt(t.stale(some)), m.stale(some));
            case 4: return same("resume()", t.resume(), m.resume());
            case 5: return same("take(" + key + ")", t.take(key), m.take(key));
            case 6: return same("done()", t.done(), m.done());
            case 7: return same("toEnd()", asInt(t.toEnd()), m.move(true));
            default: return same("toBegin()", asInt(t.toBegin()), m.move(false));
        }
    }

    /** What is asked is not counted as calls, nor told: it changes nothing, so a run without it is the same. */
    private static boolean sameToAsk(TraceLine t, Model m) {
        int callsBefore = calls;
        int toldBefore = told.size();
        boolean same = true;
        for (int which = -1; which <= 10; which++) {
            same &= same("look(" + which + ")", t.look(which), m.look(which));
        }
        for (int k = -1; k <= m.line.size(); k++) {
            same &= same("event(" + k + ")", t.event(k), m.event(k));
        }
        for (int i = -1; i <= m.all().size() + 1; i++) {
            for (int what = -1; what <= 7; what++) {
                same &= same("of(" + i + ", " + what + ")", ofOrNull(t, i, what), m.of(i, what));
            }
        }
        calls = callsBefore;
        told.subList(toldBefore, told.size()).clear();
        return same;
    }

    /** Intervals in one another, some of them stale, so that the reruns find something to go through. */
    private static boolean grow(TraceLine t, Model m, Random r) {
        boolean same = true;
        int many = 10 + r.nextInt(50);
        int endsOfTen = 1 + r.nextInt(5);
        for (int i = 0; i < many; i++) {
            int key = r.nextInt(4);
            same &= same("begin(" + key + ")", t.begin(key), m.begin(key));
            same &= same("weigh(" + i + ")", asInt(t.weigh(i)), m.weigh(i));
            if (r.nextInt(10) < endsOfTen) {
                same &= same("end()", t.end(), m.end());
            }
        }
        while (m.lastOpen() != null) {
            same &= same("end()", t.end(), m.end());
        }
        for (int i = 0; i < many; i += 1 + r.nextInt(5)) {
            same &= same("stale(" + i + ")", asInt(t.stale(i)), m.stale(i));
        }
        return same && same("toBegin()", asInt(t.toBegin()), m.move(false));
    }

    private static boolean run(int seed) {
        Random r = new Random(seed);
        TraceLine t = new TraceLine();
        Model m = new Model();
        told.clear();
        told.add("seed " + seed);
        calls = 0;
        if (!grow(t, m, r)) {
            return false;
        }
        while (calls < CALLS) {
            if (!step(t, m, r)) {
                return false;
            }
            if (r.nextInt(16) == 0 && !sameToAsk(t, m)) {
                return false;
            }
        }
        return sameToAsk(t, m);
    }

    public static void main(String[] args) {
        int wrong = 0;
        for (int seed = 0; seed < RUNS && wrong < 3; seed++) {
            if (!run(seed)) {
                wrong++;
            }
        }
        System.out.println(wrong == 0 ? "all runs are as the model's" : wrong + " runs are not as the model's");
        if (wrong != 0) {
            System.exit(1);
        }
    }
}
