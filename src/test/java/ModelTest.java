import java.util.ArrayList;
import java.util.Arrays;
import java.util.List;
import java.util.Random;

/**
 * Long mixed runs of calls, each answer held against a slow model that is written from the document
 * alone: a list of events that know their interval, every count made anew at each call.
 */
public final class ModelTest {
    private static final int RUNS = 400;
    private static final int MOST_CALLS = 512;
    // Fewer than the most, so that there is room to ask behind them.
    private static final int CALLS = 440;

    private static final class Interval {
        final int number;
        final int key;
        int weight;
        boolean stale;
        final Event start = new Event(this, false);
        final Event end = new Event(this, true);

        Interval(int number, int key) {
            this.number = number;
            this.key = key;
        }
    }

    private static final class Event {
        final Interval of;
        final boolean isEnd;

        Event(Interval of, boolean isEnd) {
            this.of = of;
            this.isEnd = isEnd;
        }
    }

    private static final class Frame {
        final Interval of;
        final int kind;
        final List<Interval> open = new ArrayList<>();

        Frame(Interval of, int kind) {
            this.of = of;
            this.kind = kind;
        }
    }

    private static final class Model {
        final List<Event> line = new ArrayList<>();
        final List<Frame> frames = new ArrayList<>();
        Event behind = null;
        long whole = 0;

        Model() {
            frames.add(new Frame(null, 0));
        }

        Frame last() {
            return frames.get(frames.size() - 1);
        }

        Interval lastOpen() {
            List<Interval> open = last().open;
            return open.isEmpty() ? null : open.get(open.size() - 1);
        }

        int cursor() {
            return behind == null ? 0 : line.indexOf(behind) + 1;
        }

        List<Interval> all() {
            List<Interval> all = new ArrayList<>();
            for (Event e : line) {
                if (!e.isEnd) {
                    all.add(e.of);
                }
            }
            return all;
        }

        Interval numbered(int i) {
            for (Interval one : all()) {
                if (one.number == i) {
                    return one;
                }
            }
            return null;
        }

        boolean ended(Interval i) {
            return line.contains(i.end);
        }

        boolean ahead(Event e) {
            int place = line.indexOf(e);
            return place >= cursor() && (last().of == null || place < line.indexOf(last().of.end));
        }

        void put(Event e) {
            line.add(cursor(), e);
            behind = e;
        }

        void erase(List<Event> events) {
            List<Interval> gone = new ArrayList<>();
            for (Event e : events) {
                gone.add(e.of);
            }
            for (Interval i : gone) {
                for (Frame f : frames) {
                    if (f.of == i || f.open.contains(i)) {
                        throw new AssertionError("a frame's or an open interval would be erased");
                    }
                }
                if (behind == i.start || behind == i.end) {
                    throw new AssertionError("the event in front of the cursor would be erased");
                }
            }
            line.removeIf(e -> gone.contains(e.of));
        }

        int begin(int key) {
            if (all().size() == 600 || last().kind == 2) {
                return -1;
            }
            int number = 0;
            while (numbered(number) != null) {
                number++;
            }
            Interval i = new Interval(number, key);
            put(i.start);
            last().open.add(i);
            return number;
        }

        int end() {
            Interval i = lastOpen();
            if (i == null) {
                return -1;
            }
            put(i.end);
            last().open.remove(i);
            return i.number;
        }

        long inAll() {
            long sum = whole;
            for (Interval i : all()) {
                sum += i.weight;
            }
            return sum;
        }

        int weigh(int n) {
            if (n < 0 || last().kind == 2 || inAll() + n > 1000000000L) {
                return 0;
            }
            Interval i = lastOpen() != null ? lastOpen() : last().of;
            if (i == null) {
                whole += n;
            } else {
                i.weight += n;
            }
            return 1;
        }

        int stale(int number) {
            Interval i = numbered(number);
            if (i == null || !ended(i) || i.stale) {
                return 0;
            }
            i.stale = true;
            return 1;
        }

        int resume() {
            if (last().kind == 1 || lastOpen() != null || frames.size() == 64) {
                return -1;
            }
            for (Interval i : all()) {
                if (i.stale && ahead(i.start)) {
                    i.stale = false;
                    i.weight = 0;
                    frames.add(new Frame(i, 1));
                    behind = i.start;
                    return i.number;
                }
            }
            return -1;
        }

        int take(int key) {
            if (last().kind != 1 || frames.size() == 64) {
                return -1;
            }
            for (Interval i : all()) {
                if (i.key == key && !i.stale && ended(i) && ahead(i.start) && ahead(i.end)) {
                    erase(new ArrayList<>(line.subList(cursor(), line.indexOf(i.start))));
                    frames.add(new Frame(i, 2));
                    behind = i.start;
                    return i.number;
                }
            }
            return -1;
        }

        int done() {
            if (frames.size() == 1 || lastOpen() != null) {
                return -1;
            }
            Frame f = last();
            if (f.kind == 1) {
                erase(new ArrayList<>(line.subList(cursor(), line.indexOf(f.of.end))));
            }
            frames.remove(f);
            behind = f.of.end;
            return f.of.number;
        }

        int move(boolean toEnd) {
            if (frames.size() > 1 || lastOpen() != null) {
                return 0;
            }
            behind = toEnd && !line.isEmpty() ? line.get(line.size() - 1) : null;
            return 1;
        }

        void wipe() {
            line.clear();
            frames.clear();
            frames.add(new Frame(null, 0));
            behind = null;
            whole = 0;
        }

        /** Null where of throws. */
        Integer of(int number, int what) {
            Interval i = numbered(number);
            if (i == null || what < 0 || what > 6) {
                return null;
            }
            int start = line.indexOf(i.start);
            switch (what) {
                case 0: return i.key;
                case 1: return i.weight;
                case 2: return !ended(i) ? 0 : i.stale ? 2 : 1;
                case 3: return start;
                case 4: return line.indexOf(i.end);
                case 5: return around(start);
                default: return sumWithin(i, start);
            }
        }

        int around(int start) {
            int innermost = -1;
            for (Interval j : all()) {
                boolean over = ended(j) && line.indexOf(j.end) < start;
                if (line.indexOf(j.start) < start && !over) {
                    innermost = j.number;
                }
            }
            return innermost;
        }

        int sumWithin(Interval i, int start) {
            int sum = i.weight;
            for (Interval j : all()) {
                int place = line.indexOf(j.start);
                if (place > start && (!ended(i) || place < line.indexOf(i.end))) {
                    sum += j.weight;
                }
            }
            return sum;
        }

        int event(int k) {
            if (k < 0 || k >= line.size()) {
                return -1;
            }
            return 2 * line.get(k).of.number + (line.get(k).isEnd ? 1 : 0);
        }

        int look(int which) {
            switch (which) {
                case 0: return all().size();
                case 1: return line.size();
                case 2: return cursor();
                case 3: return frames.size();
                case 4: return (int) inAll();
                case 5: return (int) all().stream().filter(i -> i.stale).count();
                case 6: return last().of == null ? -1 : last().of.number;
                case 7: return lastOpen() == null ? -1 : lastOpen().number;
                case 8: return last().kind;
                case 9: return (int) line.stream().filter(this::ahead).count();
                default: return -1;
            }
        }
    }

    private static int asInt(boolean b) {
        return b ? 1 : 0;
    }

    private record Call(String name, int a, int b) {
        @Override
        public String toString() {
            return name + "(" + a + ", " + b + ")";
        }
    }

    /** Null where the call throws. */
    private static Integer answer(TraceLine t, Call c) {
        switch (c.name) {
            case "begin": return t.begin(c.a);
            case "end": return t.end();
            case "weigh": return asInt(t.weigh(c.a));
            case "stale": return asInt(t.stale(c.a));
            case "resume": return t.resume();
            case "take": return t.take(c.a);
            case "done": return t.done();
            case "toEnd": return asInt(t.toEnd());
            case "toBegin": return asInt(t.toBegin());
            case "wipe": t.wipe(); return 0;
            case "event": return t.event(c.a);
            case "look": return t.look(c.a);
            default: return ofOrNull(t, c.a, c.b);
        }
    }

    private static Integer ofOrNull(TraceLine t, int i, int what) {
        try {
            return t.of(i, what);
        } catch (IllegalArgumentException e) {
            return null;
        }
    }

    private static Integer due(Model m, Call c) {
        switch (c.name) {
            case "begin": return m.begin(c.a);
            case "end": return m.end();
            case "weigh": return m.weigh(c.a);
            case "stale": return m.stale(c.a);
            case "resume": return m.resume();
            case "take": return m.take(c.a);
            case "done": return m.done();
            case "toEnd": return m.move(true);
            case "toBegin": return m.move(false);
            case "wipe": m.wipe(); return 0;
            case "event": return m.event(c.a);
            case "look": return m.look(c.a);
            default: return m.of(c.a, c.b);
        }
    }

    /** One object beside its model, and the calls that both have got. */
    private static final class Pair {
        final TraceLine t = new TraceLine();
        final Model m = new Model();
        final Random r;
        final List<Call> played = new ArrayList<>();
        boolean same = true;

        Pair(int seed) {
            r = new Random(seed);
        }

        void play(String name, int a) {
            Call c = new Call(name, a, 0);
            compare(c, answer(t, c), due(m, c));
            played.add(c);
        }

        void compare(Call c, Integer got, Integer want) {
            if (same && (got == null ? want != null : !got.equals(want))) {
                System.out.println(c + " answered " + got + ", due is " + want + ", after " + played);
                same = false;
            }
        }

        /** On new objects, since nothing is promised behind the 512th call of one. */
        void askAll() {
            List<Call> asks = asks();
            TraceLine asked = null;
            int room = 0;
            for (Call c : asks) {
                if (room == 0) {
                    asked = playedAgain();
                    room = MOST_CALLS - played.size();
                }
                compare(c, answer(asked, c), due(m, c));
                room--;
            }
        }

        TraceLine playedAgain() {
            TraceLine again = new TraceLine();
            for (Call c : played) {
                answer(again, c);
            }
            return again;
        }

        List<Call> asks() {
            List<Call> asks = new ArrayList<>();
            for (int which = -1; which <= 10; which++) {
                asks.add(new Call("look", which, 0));
            }
            for (int k = -1; k <= m.line.size(); k++) {
                asks.add(new Call("event", k, 0));
            }
            for (int i = -1; i <= m.all().size() + 1; i++) {
                for (int what = -1; what <= 7; what++) {
                    asks.add(new Call("of", i, what));
                }
            }
            return asks;
        }

        /** Intervals in one another, some of them stale, so that the reruns find something to go through. */
        void grow() {
            int many = 10 + r.nextInt(50);
            int endsOfTen = 1 + r.nextInt(5);
            for (int i = 0; i < many; i++) {
                play("begin", r.nextInt(4));
                play("weigh", i);
                if (r.nextInt(10) < endsOfTen) {
                    play("end", 0);
                }
            }
            while (m.lastOpen() != null) {
                play("end", 0);
            }
            for (int i = 0; i < many; i += 1 + r.nextInt(5)) {
                play("stale", i);
            }
            play("toBegin", 0);
        }

        void step() {
            if (r.nextInt(1000) == 0) {
                play("wipe", 0);
                return;
            }
            String name = someCall();
            switch (name) {
                case "weigh": play(name, someWeight()); break;
                case "stale": play(name, r.nextInt(m.all().size() + 3) - 1); break;
                default: play(name, r.nextInt(4));
            }
        }

        String someCall() {
            int[] often = OFTEN[m.last().kind];
            int left = r.nextInt(Arrays.stream(often).sum());
            int call = 0;
            while (left >= often[call]) {
                left -= often[call];
                call++;
            }
            return NAMES[call];
        }

        int someWeight() {
            switch (r.nextInt(20)) {
                case 0: return -1 - r.nextInt(5);
                case 1: return 1000000000;
                case 2: return 300000000;
                case 3: return Integer.MAX_VALUE;
                default: return r.nextInt(10);
            }
        }
    }

    private static final String[] NAMES = {
        "begin", "end", "weigh", "stale", "resume", "take", "done", "toEnd", "toBegin"};

    // How often each of them comes, by the kind of the last frame, so that reruns get deep.
    private static final int[][] OFTEN = {
        {20, 30, 6, 20, 30, 1, 1, 2, 10},
        {12, 20, 5, 10, 1, 30, 3, 1, 1},
        {1, 1, 1, 30, 30, 1, 3, 1, 1}};

    private static boolean run(int seed) {
        Pair pair = new Pair(seed);
        pair.grow();
        while (pair.played.size() < CALLS && pair.same) {
            pair.step();
            if (pair.r.nextInt(16) == 0) {
                pair.askAll();
            }
        }
        pair.askAll();
        return pair.same;
    }

    public static void main(String[] args) {
        int wrong = 0;
        for (int seed = 0; seed < RUNS && wrong < 3; seed++) {
            if (!run(seed)) {
                wrong++;
            }
        }
        System.out.println(wrong == 0 ? "all runs are as the model's" : wrong + " runs are not as the model's");
        if (wrong != 0) {
            System.exit(1);
        }
    }
}
