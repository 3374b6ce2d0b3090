import java.util.ArrayList;
import java.util.List;

/**
 * Each sentence of the document that names a boundary case, with runs of calls that go up to the
 * boundary and over it.
 *
 * <p>A run is a text: calls, each behind a ';', with the answer that is due behind an '='. NONE stands
 * for -1, IAE for an IllegalArgumentException, MIN and MAX for the least and the greatest int. 'line'
 * asks for all events, 'looks' for look(0) up to look(9).
 *
 * <p>Each run is played on a new object, and again on objects that were used and wiped. Each call in it
 * that is refused, or only asks, must change nothing: all that can be asked, at once and after some
 * further calls, is held against the same run without it. Since nothing is promised behind the 512th
 * call, what is asked for that is asked of new objects on which the run is played again.
 */
public final class EdgeTest {
    private static final int MOST_CALLS = 512;
    private static int wrong = 0;
    private static int held = 0;
    private static String promise = "";

    // ---- runs of calls

    /** A probe is a call that stands for itself, and is not looked at for what it changes. */
    private record Call(String name, int a, int b, String want, boolean probe) {
        @Override
        public String toString() {
            switch (name) {
                case "end": case "resume": case "done": case "toEnd": case "toBegin": case "wipe":
                    return name + "()";
                case "of":
                    return name + "(" + a + ", " + b + ")";
                default:
                    return name + "(" + a + ")";
            }
        }

        boolean asks() {
            return name.equals("of") || name.equals("event") || name.equals("look");
        }

        boolean mustChangeNothing() {
            if (probe || want == null) {
                return false;
            }
            return asks() || want.equals("-1") || want.equals("false") || want.equals("IAE");
        }
    }

    private static Call ask(String name, int a, int b, String want) {
        return new Call(name, a, b, want, true);
    }

    private static int number(String word) {
        switch (word) {
            case "NONE": return -1;
            case "MIN": return Integer.MIN_VALUE;
            case "MAX": return Integer.MAX_VALUE;
            default: return Integer.parseInt(word);
        }
    }

    private static String answerWritten(String word) {
        boolean isNumber = !word.equals("IAE") && !word.equals("true") && !word.equals("false");
        return isNumber ? Integer.toString(number(word)) : word;
    }

    private static List<Call> calls(String run) {
        List<Call> calls = new ArrayList<>();
        for (String one : run.split(";")) {
            if (!one.isBlank()) {
                addCall(calls, one.trim());
            }
        }
        return calls;
    }

    private static void addCall(List<Call> calls, String text) {
        String[] halves = text.split("=");
        String[] words = halves[0].trim().split("\\s+");
        if (words[0].equals("line")) {
            calls.add(ask("look", 1, 0, Integer.toString(words.length - 1)));
            for (int k = 1; k < words.length; k++) {
                calls.add(ask("event", k - 1, 0, answerWritten(words[k])));
            }
            calls.add(ask("event", words.length - 1, 0, "-1"));
        } else if (words[0].equals("looks")) {
            for (int k = 1; k < words.length; k++) {
                calls.add(ask("look", k - 1, 0, answerWritten(words[k])));
            }
        } else {
            int a = words.length > 1 ? number(words[1]) : 0;
            int b = words.length > 2 ? number(words[2]) : 0;
            String want = halves.length > 1 ? answerWritten(halves[1].trim()) : null;
            calls.add(new Call(words[0], a, b, want, false));
        }
    }

    private static <T> List<T> joined(List<T> one, List<T> other) {
        List<T> both = new ArrayList<>(one);
        both.addAll(other);
        return both;
    }

    // ---- playing them

    private static String answerOf(TraceLine t, Call c) {
        switch (c.name) {
            case "begin": return Integer.toString(t.begin(c.a));
            case "end": return Integer.toString(t.end());
            case "weigh": return Boolean.toString(t.weigh(c.a));
            case "stale": return Boolean.toString(t.stale(c.a));
            case "resume": return Integer.toString(t.resume());
            case "take": return Integer.toString(t.take(c.a));
            case "done": return Integer.toString(t.done());
            case "toEnd": return Boolean.toString(t.toEnd());
            case "toBegin": return Boolean.toString(t.toBegin());
            case "wipe": t.wipe(); return "";
            case "of": return Integer.toString(t.of(c.a, c.b));
            case "event": return Integer.toString(t.event(c.a));
            case "look": return Integer.toString(t.look(c.a));
            default: throw new AssertionError("this test has no call " + c.name);
        }
    }

    private static String answer(TraceLine t, Call c) {
        try {
            return answerOf(t, c);
        } catch (RuntimeException e) {
            return e.getClass() == IllegalArgumentException.class ? "IAE" : e.toString();
        }
    }

    /** The answers of all calls, on a new object. */
    private static List<String> answers(List<Call> calls) {
        if (calls.size() > MOST_CALLS) {
            throw new AssertionError("this test asks for more than is promised: " + calls.size() + " calls");
        }
        TraceLine t = new TraceLine();
        List<String> answers = new ArrayList<>();
        for (Call c : calls) {
            answers.add(answer(t, c));
        }
        return answers;
    }

    /** What is answered to each ask behind the run, on as many new objects as it needs. */
    private static List<String> asked(List<Call> run, List<Call> asks) {
        int room = MOST_CALLS - run.size();
        if (room < 1) {
            throw new AssertionError("a run of this test leaves no room to ask");
        }
        List<String> all = new ArrayList<>();
        for (int from = 0; from < asks.size(); from += room) {
            List<Call> some = asks.subList(from, Math.min(asks.size(), from + room));
            all.addAll(answers(joined(run, some)).subList(run.size(), run.size() + some.size()));
        }
        return all;
    }

    /** All that can be asked behind a run, of the intervals up to a number. */
    private static List<String> picture(List<Call> run, int upTo) {
        List<Call> asks = new ArrayList<>();
        for (int which = 0; which <= 9; which++) {
            asks.add(ask("look", which, 0, null));
        }
        // A run of 512 calls can't make more events than this, whatever the class answers.
        int events = Math.max(0, Math.min(MOST_CALLS, smallNumber(asked(run, asks).get(1))));
        for (int k = 0; k <= events; k++) {
            asks.add(ask("event", k, 0, null));
        }
        for (int i = 0; i <= upTo; i++) {
            for (int what = 0; what <= 6; what++) {
                asks.add(ask("of", i, what, null));
            }
        }
        List<String> told = new ArrayList<>();
        List<String> answers = asked(run, asks);
        for (int i = 0; i < asks.size(); i++) {
            told.add(asks.get(i) + " = " + answers.get(i));
        }
        return told;
    }

    private static int smallNumber(String answer) {
        return answer.matches("\\d{1,4}") ? Integer.parseInt(answer) : 0;
    }

    private static int begins(List<Call> run) {
        int begins = 0;
        for (Call c : run) {
            if (c.name.equals("begin")) {
                begins++;
            }
        }
        return begins;
    }

    // ---- holding the answers against what is due

    private static void tell(String sentence, String fault, List<Call> run) {
        wrong++;
        if (wrong <= 40) {
            System.out.println(promise + ", \"" + sentence + "\": " + fault + ", after " + run);
        }
    }

    private static void sameAnswers(String sentence, List<Call> before, List<Call> run) {
        List<Call> all = joined(before, run);
        List<String> got = answers(all);
        for (int k = before.size(); k < all.size(); k++) {
            String want = all.get(k).want;
            if (want != null && !want.equals(got.get(k))) {
                tell(sentence, all.get(k) + " answered " + got.get(k) + ", due is " + want, all.subList(0, k));
            }
        }
    }

    private static void samePicture(String sentence, List<Call> run, Call refused, List<Call> then) {
        List<Call> all = joined(joined(run, List.of(refused)), then);
        // Numbers are given out from the least on, so none lies behind the count of begins.
        int upTo = begins(all);
        List<String> due = picture(joined(run, then), upTo);
        List<String> got = picture(all, upTo);
        for (int k = 0; k < Math.max(due.size(), got.size()); k++) {
            String one = k < due.size() ? due.get(k) : "nothing";
            String other = k < got.size() ? got.get(k) : "nothing";
            if (!one.equals(other)) {
                tell(sentence, refused + " changed " + one + " to " + other + ", seen behind " + then, run);
                return;
            }
        }
    }

    // What a refused call could have changed out of sight comes to light in these.
    private static final String[] AFTERWARDS = {
        "",
        "end; end; end; done; end; end; done; end; end; done; toBegin; begin 1; end; toEnd; begin 2;",
        "weigh 5; begin 9; weigh 6; end; resume; weigh 1; done; done; done;",
        "done; done; done; resume; take 2; take 4; take 7; done; done;",
        "take 2; done; take 5; done; take 7; resume; begin 1;",
        "end; toBegin; resume; begin 9; take 5; done; end; done; toEnd; begin 4;",
        "stale 0; stale 1; stale 2; end; toBegin; resume; done; resume; done;"};

    private static void changesNothing(String sentence, List<Call> before, Call refused) {
        for (String afterwards : AFTERWARDS) {
            List<Call> then = calls(afterwards);
            List<String> due = answers(joined(before, then));
            List<String> got = answers(joined(joined(before, List.of(refused)), then));
            for (int k = 0; k < then.size(); k++) {
                String one = due.get(before.size() + k);
                String other = got.get(before.size() + 1 + k);
                if (!one.equals(other)) {
                    tell(sentence, refused + " made " + then.get(k) + " answer " + other + ", not " + one, before);
                }
            }
            samePicture(sentence, before, refused, then);
        }
    }

    // What an object was used for before it was wiped: open ones, reruns, what was taken, a full weight.
    private static final String[] USED = {
        "begin 1; begin 2; begin 7; weigh 1000000000; end; wipe;",
        "begin 7; begin 7; begin 7; begin 7; weigh 9; end; end; end; end; stale 0; stale 2; stale 3; toBegin;"
            + "resume; begin 5; weigh 8; take 7; stale 0; stale 1; resume; begin 6; wipe;",
        "weigh 1000000000; begin 2; begin 4; end; begin 5; end; end; stale 0; toBegin; resume; take 5; wipe;"};

    private static void answersHold(String sentence, String run) {
        held++;
        List<Call> calls = calls(run);
        sameAnswers(sentence, List.of(), calls);
        for (String used : USED) {
            List<Call> before = calls(used);
            if (before.size() + calls.size() <= MOST_CALLS) {
                sameAnswers(sentence + "; on a wiped object", before, calls);
            }
        }
    }

    private static void holds(String sentence, String run) {
        answersHold(sentence, run);
        List<Call> calls = calls(run);
        for (int k = 0; k < calls.size(); k++) {
            if (calls.get(k).mustChangeNothing()) {
                changesNothing(sentence, calls.subList(0, k), calls.get(k));
            }
        }
    }

    // ---- objects to begin with

    /** 0 around 1 and 3, 1 around 2, 3 around 4; 5 behind. A key is 1 more than the number, a weight 10 keys. */
    private static final String SAMPLE = "begin 1; weigh 10; begin 2; weigh 20; begin 3; weigh 30; end; end;"
        + "begin 4; weigh 40; begin 5; weigh 50; end; end; end; begin 6; weigh 60; end;";
    private static final String SAMPLE_LINE = "line 0 2 4 5 3 6 8 9 7 1 10 11;";

    /** 0 is run again; 1 up to 4 are ahead, 5 lies behind the limit. */
    private static final String RERUN = SAMPLE + "stale 0; toBegin; resume;";

    /** 1 is taken in the rerun of 0; 2 is ahead. */
    private static final String TAKEN = RERUN + "take 2;";

    /** 2 is run again in 1, which is taken; nothing is ahead. */
    private static final String UPPER_RERUN = TAKEN + "stale 2; resume;";

    /** As TAKEN, and 6 is open in the rerun below. */
    private static final String TAKEN_OVER_OPEN = RERUN + "begin 9; take 2;";

    private static final String LIKE_NEW = "looks 0 0 0 1 0 0 NONE NONE 0 0;";

    /** depth intervals with key 7 in one another, those with even numbers stale, the cursor at the beginning. */
    private static String nest(int depth) {
        StringBuilder run = new StringBuilder("begin 7;".repeat(depth) + "end;".repeat(depth));
        for (int i = 0; i < depth; i += 2) {
            run.append("stale ").append(i).append(';');
        }
        return run + "toBegin;";
    }

    /** Upon the first frame so many others of a nest. */
    private static String framesOf(int others) {
        StringBuilder run = new StringBuilder();
        for (int i = 0; i < others; i++) {
            run.append(i % 2 == 0 ? "resume = " : "take 7 = ").append(i).append(';');
        }
        return run.toString();
    }

    // ---- the document's first lines and its terms

    private static void uses() {
        promise = "What it is";
        String sentence = "An object is used for at most 512 calls after it has been made";
        StringBuilder begins = new StringBuilder();
        StringBuilder pairs = new StringBuilder();
        for (int i = 0; i < 512; i++) {
            begins.append("begin ").append(-i).append(" = ").append(i).append(';');
            pairs.append(i % 2 == 0 ? "begin 7 = " : "end = ").append(i / 2).append(';');
        }
        answersHold(sentence, begins.toString());
        answersHold(sentence, pairs.toString());
        answersHold(sentence, "begin 7;".repeat(511) + "event 510 = 1020");
        answersHold(sentence, "begin 7;".repeat(511) + "event 511 = NONE");
        answersHold(sentence, "begin 7;".repeat(511) + "of 510 5 = 509");
        answersHold(sentence, "begin 7;".repeat(511) + "of 511 0 = IAE");
        answersHold(sentence, "begin 7;".repeat(511) + "look 0 = 511");
        answersHold(sentence, "begin 7;".repeat(510) + "weigh 1000000000 = true; of 0 6 = 1000000000");
        answersHold(sentence, "begin 7;".repeat(255) + "end;".repeat(255) + "event 509 = 1; event 510 = NONE");
        answersHold(sentence, "begin 7;".repeat(255) + "end;".repeat(255) + "of 0 4 = 509; of 254 3 = 254");
        answersHold(sentence, "begin 7;".repeat(254) + "end;".repeat(254)
            + "stale 253 = true; toBegin = true; resume = 253; done = 253");
        answersHold(sentence, "begin 7;".repeat(254) + "end;".repeat(254)
            + "stale 0 = true; toBegin = true; resume = 0; take 7 = 1");
        answersHold(sentence, "begin 7; end;".repeat(254) + "stale 253 = true; toBegin; resume = 253; look 2 = 507");
        answersHold(sentence, "begin 7; end;".repeat(255) + "wipe; begin 7 = 0");
        answersHold(sentence, "weigh 1953125 = true;".repeat(512));
        answersHold(sentence, "wipe;".repeat(511) + "begin 7 = 0");
        answersHold(sentence, nest(100) + framesOf(63) + "done = 62;" + "look 3 = 63;".repeat(197));
    }

    private static void terms() {
        promise = "Terms";
        holds("INTERVALS have NUMBERS 0 .. 599, the least that none has first",
            "begin 1 = 0; begin 2 = 1; end = 1; begin 3 = 2; end = 2; begin 4 = 3; end = 3; begin 5 = 4; end = 4;"
            + "end = 0; begin 9 = 5; end; stale 0; toBegin; resume; take 3 = 2; done; take 5 = 4; done;"
            + "of 1 0 = IAE; of 3 0 = IAE; begin 6 = 1; end; begin 6 = 3; end; begin 6 = 6;"
            + "line 0 4 5 8 9 2 3 6 7 12 1 10 11");
        holds("INTERVALS have NUMBERS 0 .. 599, the least that none has first",
            "begin 1; begin 2; begin 3; end; end; end; stale 0; toBegin; resume; done; begin 8 = 1; begin 8 = 2;"
            + "begin 8 = 3");
        holds("a KEY (an int)",
            "begin MIN = 0; begin MAX = 1; begin -1 = 2; begin 0 = 3; begin 0 = 4;"
            + "of 0 0 = MIN; of 1 0 = MAX; of 2 0 = -1; of 3 0 = 0; of 4 0 = 0");
        holds("a WEIGHT (0 at first)", "weigh 5; begin 1; of 0 1 = 0; of 0 6 = 0; weigh 5; begin 2; of 1 1 = 0");
        holds("a WEIGHT (0 at first)", SAMPLE + "stale 1; toBegin; resume; done; begin 9 = 2; of 2 1 = 0;"
            + "of 2 6 = 150");
        holds("its END, as soon as it has one; one that has it is ENDED",
            "begin 1; line 0; of 0 2 = 0; of 0 4 = NONE; end; line 0 1; of 0 2 = 1; of 0 4 = 1");
        holds("THE CURSOR stands behind an EVENT, or at the beginning of the LINE (so at first)",
            "look 2 = 0; begin 1; look 2 = 1; end; look 2 = 2; toBegin; look 2 = 0");
        holds("what is put into the LINE comes there, and the CURSOR stands behind it",
            SAMPLE + "toBegin; begin 9 = 6; line 12 0 2 4 5 3 6 8 9 7 1 10 11; look 2 = 1;"
            + "end = 6; line 12 13 0 2 4 5 3 6 8 9 7 1 10 11; look 2 = 2; of 0 3 = 2; of 5 4 = 13");
        holds("what is put into the LINE comes there, and the CURSOR stands behind it",
            RERUN + "begin 9 = 6; line 0 12 2 4 5 3 6 8 9 7 1 10 11; look 2 = 2; end = 6;"
            + "line 0 12 13 2 4 5 3 6 8 9 7 1 10 11; look 2 = 3; done; begin 9 = 1; line 0 12 13 1 2 10 11;"
            + "look 2 = 5");
        frames();
        ahead();
        erased();
        weighed();
    }

    private static void frames() {
        holds("the first one is always there, and has no LIMIT",
            "look 3 = 1; look 8 = 0; done = NONE; look 3 = 1;" + SAMPLE + "toBegin; look 9 = 12; toEnd; look 9 = 0");
        holds("each for an ENDED INTERVAL whose END is its LIMIT: RERUN, or TAKEN",
            RERUN + "look 6 = 0; look 8 = 1; look 9 = 8; take 2; look 6 = 1; look 8 = 2; look 9 = 2");
        holds("The last one counts", TAKEN_OVER_OPEN + "look 6 = 1; look 7 = NONE; look 8 = 2; end = NONE; done = 1;"
            + "look 6 = 0; look 7 = 6; look 8 = 1; end = 6; look 7 = NONE; done = 0; look 6 = NONE; look 8 = 0");
        holds("Its OPEN INTERVALS are those that were begun in it and are not ENDED",
            RERUN + "look 7 = NONE; begin 8 = 6; look 7 = 6; begin 8 = 7; look 7 = 7; end = 7; look 7 = 6;"
            + "take 2 = 1;"
            + "look 7 = NONE; stale 2; resume = 2; look 7 = NONE; begin 9 = 8; look 7 = 8; end = 8; end = NONE;"
            + "done = 2;"
            + "look 7 = NONE; end = NONE; done = 1; look 7 = 6; end = 6; look 7 = NONE; end = NONE");
        holds("In a TAKEN one none can be begun, ended or taken",
            TAKEN + "begin 1 = NONE; end = NONE; take 3 = NONE; take 5 = NONE; take 2 = NONE");
        holds("In a TAKEN one none can be begun, ended or taken",
            TAKEN_OVER_OPEN + "begin 1 = NONE; end = NONE; take 3 = NONE; take 5 = NONE; take 9 = NONE");
        holds("in a RERUN one none is RESUMED",
            SAMPLE + "stale 0; stale 1; stale 4; stale 5; toBegin; resume = 0; resume = NONE; take 3 = 2; done;"
            + "resume = NONE; begin 9; end; resume = NONE; look 5 = 2");
        framesAtTheMost();
    }

    private static void framesAtTheMost() {
        String sentence = "others are put upon it, up to 64 in all";
        // Reruns and taken ones take turns upon the first, so the 64th is always a rerun one.
        holds(sentence, nest(66) + framesOf(61) + "look 3 = 62; take 7 = 61; look 3 = 63; look 8 = 2;"
            + "resume = 62; look 3 = 64; look 8 = 1; look 6 = 62; look 9 = 6; look 2 = 63");
        holds(sentence, nest(66) + framesOf(63) + "take 7 = NONE; resume = NONE; look 3 = 64");
        holds(sentence, nest(66) + framesOf(63) + "begin 7 = 66; weigh 3 = true; take 7 = NONE; resume = NONE;"
            + "done = NONE;"
            + "end = 66; take 7 = NONE; done = 62; look 3 = 63; take 7 = NONE; resume = NONE; done = 61;"
            + "look 3 = 62");
        // 62 and 64 lie side by side in 61, so that the 64th frame can go and come again.
        holds(sentence, "begin 7;".repeat(64) + "end; end; begin 7 = 64; begin 7 = 65; end; end;" + "end;".repeat(62)
            + stales(0, 64) + "toBegin;" + framesOf(63) + "take 7 = NONE; done = 62; look 3 = 63; resume = 64;"
            + "look 3 = 64; look 6 = 64; take 7 = NONE; done = 64; look 3 = 63; done = 61; look 3 = 62;"
            + "take 7 = NONE");
    }

    private static String stales(int from, int to) {
        StringBuilder run = new StringBuilder();
        for (int i = from; i <= to; i += 2) {
            run.append("stale ").append(i).append(" = true;");
        }
        return run.toString();
    }

    private static void ahead() {
        String sentence = "An EVENT is AHEAD if it lies behind the CURSOR and, if there is a LIMIT, in front of that";
        holds(sentence, "look 9 = 0; begin 1; look 9 = 0; end; look 9 = 0; toBegin; look 9 = 2; begin 2; look 9 = 2");
        holds(sentence, RERUN + "look 9 = 8; begin 9; look 9 = 8; end; look 9 = 8");
        holds(sentence, TAKEN + "look 9 = 2; done; look 9 = 4; take 5; look 9 = 0; done; look 9 = 0; done;"
            + "look 9 = 2");
        holds(sentence, UPPER_RERUN + "look 9 = 0; begin 1; end; look 9 = 0; done; look 9 = 0");
        holds(sentence, "begin 1; end; stale 0; toBegin; look 9 = 2; resume; look 9 = 0; done; look 9 = 0");
        // The start right behind the cursor is ahead, and so is the end right in front of the limit.
        holds(sentence, "begin 1; begin 2; end; end; stale 0; toBegin; resume; look 9 = 2; take 2 = 1");
    }

    private static void erased() {
        String sentence = "all INTERVALS of which one is erased go, with their other EVENT";
        holds(sentence, RERUN + "take 3 = 2; line 0 4 5 6 8 9 7 1 10 11; of 1 0 = IAE; of 2 0 = 3;"
            + "look 0 = 5; look 4 = 180; done; take 5 = 4; line 0 4 5 8 9 1 10 11; of 3 0 = IAE; look 4 = 140");
        holds(sentence, RERUN + "take 5 = 4; line 0 8 9 1 10 11; of 1 0 = IAE; of 2 0 = IAE; of 3 0 = IAE;"
            + "looks 3 6 2 3 110 0 4 NONE 2 0");
        holds(sentence, SAMPLE + "stale 1; stale 2; stale 3; stale 0; toBegin; resume = 0; look 5 = 3; take 5 = 4;"
            + "look 5 = 0;"
            + "stale 1 = false; stale 2 = false; stale 3 = false");
        sentence = "(The STARTS and ENDS of FRAMES' INTERVALS are never among them.)";
        holds(sentence, UPPER_RERUN + "done = 2; done = 1; done = 0; line 0 2 4 5 3 1 10 11");
        holds(sentence, UPPER_RERUN + "begin 9 = 6; end; done = 2; done = 1; take 5 = 4; done; done = 0;"
            + "line 0 2 4 12 13 5 3 8 9 1 10 11");
    }

    private static void weighed() {
        holds("WEIGHT of the last OPEN INTERVAL of the last FRAME",
            "begin 1; weigh 1; begin 2; weigh 2; end; weigh 4; of 0 1 = 5; of 1 1 = 2; look 4 = 7");
        holds("or, if none is OPEN, of the INTERVAL of that FRAME",
            RERUN + "weigh 3 = true; of 0 1 = 3; begin 9; weigh 4; of 0 1 = 3; of 6 1 = 4; end; weigh 5; of 0 1 = 8;"
            + "of 6 1 = 4");
        holds("or, if none is OPEN, of the INTERVAL of that FRAME",
            TAKEN_OVER_OPEN + "stale 2; resume; weigh 3 = true; of 2 1 = 3; of 6 1 = 0; of 0 1 = 0; of 1 1 = 20;"
            + "look 4 = 173");
        holds("(for the first: of the whole)",
            "weigh 3; look 4 = 3; begin 1; end; weigh 4; of 0 1 = 0; look 4 = 7; stale 0; toBegin; resume; done;"
            + "weigh 5; look 4 = 12");
    }

    // ---- the promises

    private static void newObject() {
        promise = "Promise 1";
        String sentence = "No INTERVALS; the first FRAME; the whole weighs 0";
        holds(sentence, LIKE_NEW + "line; event 0 = NONE; stale 0 = false; end = NONE; resume = NONE; take 0 = NONE;"
            + "done = NONE");
        holds(sentence, "toEnd = true; toBegin = true;" + LIKE_NEW + "begin 0 = 0");
        holds(sentence, "weigh 1000000000 = true; weigh 1 = false");
        for (int what = 0; what <= 6; what++) {
            holds(sentence, "of 0 " + what + " = IAE");
        }
    }

    private static void begin() {
        promise = "Promise 2";
        holds("An INTERVAL with a KEY begins at the CURSOR: its NUMBER",
            "begin MIN = 0; end; begin MAX = 1; end; toBegin; begin 0 = 2; line 4 0 1 2 3;"
            + "looks 3 5 1 1 0 0 NONE 2 0 4");
        // There can't be 600 after 512 calls; LateCallsTest goes there, where answers are free.
        holds("NONE if there are 600", "begin 7;".repeat(300) + "begin 7 = 300; look 0 = 301");
        holds("NONE if .. in a TAKEN FRAME", TAKEN + "begin 3 = NONE; begin MIN = NONE; begin MAX = NONE; done;"
            + "begin 3 = 6");
        holds("NONE if .. in a TAKEN FRAME", TAKEN_OVER_OPEN + "begin 3 = NONE; stale 2; resume = 2; begin 3 = 7;"
            + "end; done; begin 3 = NONE");
    }

    private static void end() {
        promise = "Promise 3";
        holds("The last OPEN INTERVAL of the FRAME ends at the CURSOR: its NUMBER",
            "begin 1; begin 2; begin 3; end = 2; end = 1; begin 4 = 3; end = 3; end = 0; line 0 2 4 5 3 6 7 1");
        String sentence = "NONE if none is OPEN";
        holds(sentence, "end = NONE; begin 1; end = 0; end = NONE; look 1 = 2");
        holds(sentence, SAMPLE + "end = NONE; toBegin; end = NONE;");
        holds(sentence, RERUN + "end = NONE; begin 9; end = 6; end = NONE");
        holds(sentence, TAKEN + "end = NONE");
        holds(sentence, UPPER_RERUN + "end = NONE; begin 9; end = 6; end = NONE");
        holds(sentence, TAKEN_OVER_OPEN + "end = NONE; stale 2; resume; end = NONE; done; end = NONE; done; end = 6;"
            + "end = NONE");
        holds(sentence, "begin 1; begin 2; wipe; end = NONE");
    }

    private static void weigh() {
        promise = "Promise 4";
        String sentence = "So much more WEIGHT, 0 or more: true";
        holds(sentence, "weigh 0 = true; look 4 = 0; weigh 1 = true; look 4 = 1; begin 1; weigh 0 = true; of 0 1 = 0;"
            + "weigh 1 = true; of 0 1 = 1");
        sentence = "false if n is below 0";
        holds(sentence, "weigh -1 = false; weigh MIN = false; weigh 5; weigh -1 = false; weigh -5 = false;"
            + "weigh MIN = false; look 4 = 5");
        holds(sentence, "begin 1; weigh 5; weigh -1 = false; weigh MIN = false; weigh -2147483647 = false;"
            + "of 0 1 = 5");
        holds(sentence, RERUN + "weigh -1 = false; weigh MIN = false; weigh 1000000000 = false");
        sentence = "false if .. in a TAKEN FRAME";
        holds(sentence, TAKEN + "weigh 0 = false; weigh 1 = false; weigh -1 = false; weigh MIN = false;"
            + "weigh MAX = false; of 1 1 = 20");
        holds(sentence, TAKEN_OVER_OPEN + "weigh 0 = false; weigh 1 = false; done; weigh 1 = true; of 6 1 = 1");
        holds(sentence, UPPER_RERUN + "weigh 1 = true; done; weigh 1 = false; done; weigh 1 = true; of 0 1 = 1;"
            + "of 2 1 = 1");
        weighAtTheMost();
        weighWhereRoomComesBack();
    }

    private static void weighAtTheMost() {
        String sentence = "false if .. there would be more than 1000000000 in all";
        holds(sentence, "weigh 1000000001 = false; weigh MAX = false; weigh 1000000000 = true; weigh 1 = false;"
            + "weigh 0 = true; look 4 = 1000000000");
        holds(sentence, "weigh 999999999 = true; weigh 2 = false; weigh 1 = true; weigh 1 = false; weigh 0 = true");
        // These sums wrap around.
        holds(sentence, "weigh 1000000000; weigh MAX = false; weigh 1147483648 = false; weigh 1147483647 = false;"
            + "look 4 = 1000000000");
        holds(sentence, "begin 1; weigh 1; weigh MAX = false; weigh 1000000000 = false; weigh 999999999 = true;"
            + "weigh 1 = false; of 0 1 = 1000000000");
        holds(sentence, "weigh 250000000; begin 1; weigh 250000000; begin 2; weigh 250000000; end; begin 3;"
            + "weigh 250000001 = false;"
            + "weigh 250000000 = true; weigh 1 = false; of 0 6 = 750000000; look 4 = 1000000000; end; end;"
            + "weigh 1 = false");
        holds(sentence, RERUN + "weigh 999999801 = false; weigh 999999800 = true; weigh 1 = false; begin 9;"
            + "weigh 1 = false; weigh 0 = true");
        holds(sentence, UPPER_RERUN + "weigh 999999831 = false; weigh 999999830 = true; weigh 1 = false;"
            + "of 2 1 = 999999830; of 0 6 = 999999940");
    }

    private static void weighWhereRoomComesBack() {
        String sentence = "false if .. there would be more than 1000000000 in all";
        String full = "weigh 1; begin 1; weigh 100; begin 2; weigh 200; end; begin 3; weigh 300; end; end;"
            + "weigh 999999399 = true;"
            + "weigh 1 = false; stale 0; toBegin; resume = 0;";
        holds(sentence, full + "look 4 = 999999900; weigh 101 = false; weigh 100 = true; weigh 1 = false");
        holds(sentence, full + "take 3 = 2; look 4 = 999999700; done; weigh 301 = false; weigh 300 = true;"
            + "weigh 1 = false");
        holds(sentence, full + "take 2 = 1; done; done; look 4 = 999999600; weigh 401 = false; weigh 400 = true;"
            + "weigh 1 = false");
        holds(sentence, full + "wipe; look 4 = 0; weigh 1000000001 = false; weigh 1000000000 = true;"
            + "weigh 1 = false");
    }

    private static void stale() {
        promise = "Promise 5";
        holds("An ENDED INTERVAL is stale: true", SAMPLE + "stale 2 = true; of 2 2 = 2; look 5 = 1; stale 0 = true;"
            + "stale 5 = true; look 5 = 3");
        holds("An ENDED INTERVAL is stale: true", UPPER_RERUN + "stale 0 = true; stale 1 = true; stale 2 = true;"
            + "stale 5 = true; look 5 = 4;"
            + "done; done; done; look 5 = 4");
        String sentence = "false if there is none such";
        holds(sentence, "stale 0 = false; stale -1 = false; stale 599 = false; stale 600 = false; stale MIN = false;"
            + "stale MAX = false");
        holds(sentence, SAMPLE + "stale -1 = false; stale 6 = false; stale 599 = false; stale 600 = false;"
            + "stale 1200 = false; stale MIN = false; stale MAX = false");
        holds(sentence, SAMPLE + "stale 1; toBegin; resume; done; stale 2 = false; look 5 = 0");
        holds(sentence, SAMPLE + "stale 2; stale 1; toBegin; resume; done; stale 2 = false; look 5 = 0");
        holds(sentence, SAMPLE + "wipe; stale 0 = false; stale 5 = false");
        sentence = "false if .. it is not ENDED";
        holds(sentence, "begin 1; stale 0 = false; begin 2; end; stale 0 = false; stale 1 = true; end;"
            + "stale 0 = true");
        holds(sentence, TAKEN_OVER_OPEN + "stale 6 = false; done; stale 6 = false; end; stale 6 = true");
        holds(sentence, SAMPLE + "stale 2; stale 1; toBegin; resume; done; begin 9 = 2; stale 2 = false; end;"
            + "of 2 2 = 1; stale 2 = true");
        sentence = "false if .. is so";
        holds(sentence, SAMPLE + "stale 0; stale 0 = false; stale 5; stale 5 = false; look 5 = 2");
        holds(sentence, RERUN + "stale 0 = true; stale 0 = false; take 2; stale 1 = true; stale 1 = false");
        holds(sentence, RERUN + "done; stale 0 = true; stale 0 = false; toBegin; resume = 0; stale 0 = true");
    }

    private static void resume() {
        promise = "Promise 6";
        holds("Of the stale INTERVALS whose START is AHEAD the first one is RESUMED: its NUMBER",
            SAMPLE + "stale 5; stale 3; stale 4; toBegin; resume = 3; done; resume = 5; done; resume = NONE");
        holds("Of the stale INTERVALS whose START is AHEAD the first one is RESUMED: its NUMBER",
            "begin 1; end; toBegin; begin 2; end; stale 0; stale 1; toBegin; resume = 1; done; resume = 0; done;"
            + "resume = NONE");
        holds("It is stale no more, its WEIGHT is 0",
            SAMPLE + "stale 1; stale 2; toBegin; resume = 1; of 1 2 = 1; of 1 1 = 0; of 1 6 = 30; of 2 2 = 2;"
            + "of 2 1 = 30; look 5 = 1; look 4 = 190");
        holds("a RERUN FRAME for it is put upon the others, the CURSOR is behind its START",
            SAMPLE + "stale 1; toBegin; resume = 1;" + SAMPLE_LINE + "looks 6 12 2 2 190 0 1 NONE 1 2");
        resumeFindsNone();
        resumeIsHindered();
    }

    private static void resumeFindsNone() {
        String sentence = "NONE if there is none";
        holds(sentence, "resume = NONE; begin 1; end; resume = NONE; toBegin; resume = NONE");
        holds(sentence, SAMPLE + "resume = NONE; toBegin; resume = NONE");
        // Stale, but its start lies in front of the cursor, right in front of it too.
        holds(sentence, SAMPLE + "stale 0; stale 5; resume = NONE; toBegin; resume = 0; done; stale 0; resume = 5;"
            + "done; resume = NONE");
        holds(sentence, TAKEN + "stale 1; resume = NONE; stale 0; resume = NONE");
        // Stale, but only its end is ahead: the cursor stands in it.
        holds(sentence, SAMPLE + "stale 1; toBegin; resume = 1; done = 1; stale 0; resume = NONE; stale 5;"
            + "resume = 5");
        holds(sentence, "begin 1; begin 2; begin 3; begin 4; end; end; begin 5; end; end; end; stale 0; toBegin;"
            + "resume = 0; take 2 = 1; stale 3; resume = 3;"
            + "done = 3; stale 2; resume = NONE; stale 4; resume = 4; done = 4; resume = NONE");
        // Stale, but behind the limit, right behind it too.
        holds(sentence, TAKEN + "stale 3; stale 5; resume = NONE; done; done; resume = 5");
        holds(sentence, TAKEN + "stale 2; resume = 2; done; stale 2; resume = NONE");
        holds(sentence, "begin 1; begin 2; begin 3; end; end; begin 4; end; end; stale 0; toBegin; resume;"
            + "take 2 = 1; stale 3; resume = NONE");
        holds(sentence, SAMPLE + "stale 0; toBegin; wipe; resume = NONE");
    }

    private static void resumeIsHindered() {
        String sentence = "NONE if .. in a RERUN FRAME";
        holds(sentence, RERUN + "stale 1; stale 5; resume = NONE; begin 9; resume = NONE; end; resume = NONE; done;"
            + "resume = 5");
        holds(sentence, "begin 1; begin 2; begin 3; begin 4; end; end; end; end; stale 0; stale 2; stale 3; toBegin;"
            + "resume; take 2; resume = 2;"
            + "resume = NONE; look 9 = 2");
        sentence = "NONE if .. one is OPEN in the FRAME";
        holds(sentence, SAMPLE + "stale 0; toBegin; begin 9; resume = NONE; begin 9; end; resume = NONE; end;"
            + "resume = 0");
        holds("NONE if .. one is OPEN in the FRAME (not in one below)", TAKEN_OVER_OPEN + "stale 2; resume = 2");
        holds("NONE if .. there are 64 FRAMES", nest(66) + framesOf(62) + "look 3 = 63; resume = 62; resume = NONE;"
            + "look 3 = 64");
    }

    private static void take() {
        promise = "Promise 7";
        holds("Of the ENDED INTERVALS with a KEY that are not stale themselves, whose START and END are AHEAD,"
            + " the one that begins first is taken: its NUMBER",
            "begin 1; begin 3; end; begin 2; begin 2; end; end; begin 2; end; end; stale 0; toBegin; resume;"
            + "take 2 = 2; done; take 2 = 4; done; take 2 = NONE");
        // The greater number begins first.
        holds("the one that begins first is taken",
            "begin 1; begin 3; end; end; stale 0; toBegin; resume; begin 2; end; begin 2; end; done;"
            + "stale 0; toBegin; resume; take 2 = 2; done; begin 2 = 1; end; done; stale 0; toBegin; resume;"
            + "take 2 = 2; done; take 2 = 1");
        holds("that are not stale themselves",
            "begin 1; begin 2; begin 2; end; end; begin 2; end; end; stale 0; stale 1; toBegin; resume; take 2 = 2;"
            + "done; stale 3; take 2 = NONE");
        holds("that are not stale themselves", RERUN + "stale 2; take 2 = 1; done; stale 3; take 4 = NONE;"
            + "take 5 = 4");
        holds("with a KEY (the least and the greatest int)",
            "begin 0; begin MIN; end; begin MAX; end; begin -1; end; end; stale 0; toBegin; resume; take MIN = 1;"
            + "done; take MIN = NONE;"
            + "take MAX = 2; done; take MAX = NONE; take -1 = 3; done; take -1 = NONE; take 0 = NONE");
        holds("All EVENTS between the CURSOR and its START are ERASED",
            RERUN + "take 2 = 1;" + SAMPLE_LINE + "done; take 5 = 4; line 0 2 4 5 3 8 9 1 10 11");
        holds("a TAKEN FRAME for it is put upon the others, the CURSOR is behind its START",
            RERUN + "take 4 = 3; line 0 6 8 9 7 1 10 11; looks 4 8 2 3 150 0 3 NONE 2 2; of 3 1 = 40; of 3 2 = 1");
        takeFindsNone();
        takeIsHindered();
    }

    private static void takeFindsNone() {
        String sentence = "NONE if there is none";
        holds(sentence, RERUN + "take 7 = NONE; take 0 = NONE; take -1 = NONE; take MIN = NONE; take MAX = NONE");
        holds(sentence, "begin 0; end; stale 0; toBegin; resume; take 0 = NONE; take 1 = NONE; take MIN = NONE;"
            + "take MAX = NONE");
        // Its own interval, what lies behind the limit, and what lies in front of the cursor.
        holds(sentence, RERUN + "take 1 = NONE; take 6 = NONE; take 2 = 1; done; take 2 = NONE; take 3 = NONE;"
            + "begin 8; end; take 8 = NONE; begin 8; take 8 = NONE");
        holds(sentence, UPPER_RERUN + "take 1 = NONE; take 2 = NONE; take 3 = NONE; take 4 = NONE; take 5 = NONE;"
            + "take 6 = NONE");
        // All with the key are stale.
        holds(sentence, RERUN + "stale 1; take 2 = NONE; stale 4; take 5 = NONE");
        holds(sentence, "begin 1; begin 2; end; begin 2; end; end; stale 0; stale 1; stale 2; toBegin; resume;"
            + "take 2 = NONE");
    }

    private static void takeIsHindered() {
        String sentence = "NONE if .. in the first .. FRAME";
        holds(sentence, "take 0 = NONE; take MIN = NONE; take MAX = NONE;" + SAMPLE + "take 1 = NONE; toBegin;"
            + "take 1 = NONE; take 6 = NONE; begin 9; take 1 = NONE");
        holds(sentence, RERUN + "done; take 6 = NONE");
        sentence = "NONE if .. in .. a TAKEN FRAME";
        holds(sentence, TAKEN + "take 3 = NONE; take 2 = NONE; take 4 = NONE; take MIN = NONE; take MAX = NONE; done;"
            + "take 4 = 3");
        holds(sentence, UPPER_RERUN + "done; take 4 = NONE; done; take 4 = 3");
        holds("NONE if .. there are 64 FRAMES", nest(66) + framesOf(61) + "take 7 = 61; resume = 62; look 3 = 64;"
            + "look 9 = 6; take 7 = NONE; look 3 = 64");
        // One that is open in the frame does not hinder.
        holds("NONE if there is none, in the first or a TAKEN FRAME, or there are 64 FRAMES", RERUN + "begin 8;"
            + "begin 9; take 5 = 4; line 0 12 14 8 9 1 10 11");
    }

    private static void done() {
        promise = "Promise 8";
        holds("The last FRAME goes: its INTERVAL's NUMBER", UPPER_RERUN + "done = 2; look 3 = 3; done = 1;"
            + "look 3 = 2; done = 0; look 3 = 1; done = NONE");
        String sentence = "All that is AHEAD is ERASED, if it is a RERUN one";
        holds(sentence, RERUN + "done = 0; line 0 1 10 11; looks 2 4 2 1 60 0 NONE NONE 0 2");
        holds(sentence, TAKEN + "done = 1;" + SAMPLE_LINE + "looks 6 12 5 2 200 0 0 NONE 1 4; done = 0;"
            + "line 0 2 4 5 3 1 10 11; look 2 = 6");
        holds(sentence, "begin 1; end; stale 0; toBegin; resume; done = 0; line 0 1; look 2 = 2; look 0 = 1");
        holds(sentence, SAMPLE + "stale 2; stale 3; stale 5; stale 0; toBegin; resume = 0; done = 0; look 5 = 1;"
            + "stale 2 = false; stale 5 = false");
        holds("the CURSOR is behind its INTERVAL's END", TAKEN + "stale 2; resume; done; look 2 = 4; done;"
            + "look 2 = 5; done; look 2 = 6");
        sentence = "NONE if it is the first one";
        holds(sentence, "done = NONE; begin 1; done = NONE; end; done = NONE");
        holds(sentence, SAMPLE + "stale 0; toBegin; done = NONE; resume; done = 0; done = NONE; wipe; done = NONE");
        sentence = "NONE if .. one is OPEN in it";
        holds(sentence, RERUN + "begin 9; done = NONE; begin 9; end; done = NONE; end; done = 0");
        holds(sentence, UPPER_RERUN + "begin 9; done = NONE; end; done = 2");
        holds(sentence, TAKEN_OVER_OPEN + "done = 1; done = NONE; end; done = 0");
        holds(sentence, TAKEN_OVER_OPEN + "stale 2; resume; done = 2; done = 1; done = NONE");
    }

    private static void toEnd() {
        promise = "Promise 9";
        holds("The CURSOR goes to the end of the LINE: true", "toEnd = true; look 2 = 0;" + SAMPLE + "toEnd = true;"
            + "look 2 = 12; toBegin; toEnd = true; look 2 = 12; look 9 = 0");
        holds("The CURSOR goes to the end of the LINE: true", RERUN + "done; look 2 = 2; toEnd = true; look 2 = 4");
        moves("toEnd", "look 2 = 4;");
    }

    private static void toBegin() {
        promise = "Promise 10";
        holds("The CURSOR goes to the beginning", "toBegin = true; look 2 = 0;" + SAMPLE + "toBegin = true;"
            + "look 2 = 0; toBegin = true; look 9 = 12");
        holds("The CURSOR goes to the beginning", RERUN + "done; look 2 = 2; toBegin = true; look 2 = 0");
        moves("toBegin", "look 2 = 0;");
    }

    private static void moves(String call, String atLast) {
        String sentence = "false if the first FRAME is not the last one";
        String no = call + " = false;";
        String yes = call + " = true;";
        holds(sentence, RERUN + no + "done;" + yes + atLast);
        holds(sentence, TAKEN + no + "done;" + no);
        holds(sentence, UPPER_RERUN + no + "done;" + no + "done;" + no + "done;" + yes);
        sentence = "false if .. one is OPEN";
        holds(sentence, "begin 1;" + no + "begin 2;" + no + "end;" + no + "end;" + yes);
        holds(sentence, SAMPLE + "toBegin; begin 9;" + no + "end;" + yes);
        holds(sentence, RERUN + "begin 9;" + no + "end;" + no + "done;" + yes);
        holds(sentence, TAKEN_OVER_OPEN + no + "done;" + no + "end;" + no + "done;" + yes);
        holds(sentence, "begin 1; wipe;" + yes + "look 2 = 0");
    }

    private static void wipe() {
        promise = "Promise 11";
        String sentence = "All is as at first";
        String[] states = {
            "", "wipe;", "begin 1; begin 2;", SAMPLE, SAMPLE + "stale 0; stale 3; toBegin;", RERUN, RERUN + "begin 9;"
            + "weigh 7;",
            TAKEN, UPPER_RERUN, TAKEN_OVER_OPEN, TAKEN_OVER_OPEN + "stale 2; stale 0; resume; begin 9;",
            "weigh 1000000000;", "begin 1; weigh 1000000000;", nest(66) + framesOf(63)};
        for (String state : states) {
            holds(sentence, state + "wipe; line;" + LIKE_NEW + "of 0 0 = IAE; of 0 7 = IAE; stale 0 = false;"
                + "end = NONE; done = NONE; resume = NONE; take 7 = NONE; event 0 = NONE");
            holds(sentence, state + "wipe; toEnd = true; toBegin = true; weigh 1000000000 = true; weigh 1 = false;"
                + "begin 3 = 0; begin 4 = 1; of 1 0 = 4; of 1 1 = 0;"
                + "of 1 2 = 0; of 1 4 = NONE; end = 1; of 1 2 = 1; end = 0; end = NONE; stale 1 = true;"
                    + "toBegin = true; resume = 1; look 3 = 2; look 4 = 1000000000");
        }
    }

    private static void of() {
        promise = "Promise 12";
        String[] want = {"1 10 1 0 9 NONE 150", "2 20 1 1 4 0 50", "3 30 1 2 3 1 30", "4 40 1 5 8 0 90",
            "5 50 1 6 7 3 50", "6 60 1 10 11 NONE 60"};
        for (int i = 0; i < want.length; i++) {
            String[] answers = want[i].split(" ");
            for (int what = 0; what < answers.length; what++) {
                holds("what 0: KEY, 1: WEIGHT, ..", SAMPLE + "of " + i + " " + what + " = " + answers[what]);
            }
        }
        holds("2: 1 if it is ENDED, 2 if stale, too, else 0", "begin 1; of 0 2 = 0; end; of 0 2 = 1; stale 0;"
            + "of 0 2 = 2; toBegin; resume; of 0 2 = 1; stale 0; of 0 2 = 2; done; of 0 2 = 2");
        holds("3: how many EVENTS lie in front of its START, 4: of its END", "begin 1; of 0 3 = 0; end; of 0 4 = 1;"
            + "toBegin; begin 2; of 0 3 = 1; of 0 4 = 2; end; of 0 3 = 2; of 0 4 = 3; of 1 4 = 1");
        holds("3: how many EVENTS lie in front of its START, 4: of its END", RERUN + "take 5; of 4 3 = 1; of 4 4 = 2;"
            + "of 0 4 = 3; of 5 3 = 4");
        holds("(NONE if it is not ENDED)", "begin 1; of 0 4 = NONE; begin 2; end; of 0 4 = NONE; of 1 4 = 2; end;"
            + "of 0 4 = 3");
        holds("(NONE if it is not ENDED)", SAMPLE + "stale 1; toBegin; resume; done; begin 9 = 2; of 2 4 = NONE");
        ofAround();
        ofSums();
        ofThrows();
    }

    private static void ofAround() {
        String sentence = "5: the innermost INTERVAL around its START (one whose START lies in front,"
            + " and whose END, if it has one, behind it; NONE without one)";
        holds(sentence, "begin 1; of 0 5 = NONE; end; begin 2; of 1 5 = NONE; begin 3; of 2 5 = 1; of 0 5 = NONE;"
            + "end; begin 4; of 3 5 = 1");
        // An open one is around all behind its start, past the limit of its frame too.
        holds(sentence, SAMPLE + "toBegin; begin 9; of 6 5 = NONE; of 0 5 = 6; of 1 5 = 0; of 5 5 = 6; end;"
            + "of 0 5 = NONE; of 5 5 = NONE");
        holds(sentence, RERUN + "begin 9; of 6 5 = 0; of 1 5 = 6; of 2 5 = 1; of 4 5 = 3; of 5 5 = 6; of 0 5 = NONE;"
            + "take 2; done; end; of 1 5 = 6; of 3 5 = 0; of 5 5 = NONE");
        holds(sentence, TAKEN_OVER_OPEN + "stale 2; resume; begin 8; of 7 5 = 2; of 3 5 = 7; end; of 3 5 = 6;"
            + "of 1 5 = 6");
    }

    private static void ofSums() {
        String sentence = "6: the sum of its WEIGHT and of all that lie in it (their STARTS lying behind its own,"
            + " and in front of its END, if it has one)";
        holds(sentence, "begin 1; of 0 6 = 0; weigh 1; of 0 6 = 1; begin 2; weigh 2; of 0 6 = 3; of 1 6 = 2; end;"
            + "end; begin 3; weigh 4; of 0 6 = 3; of 2 6 = 4");
        holds(sentence, SAMPLE + "weigh 7; toBegin; begin 9; weigh 1; of 6 6 = 211; of 0 6 = 150; end; of 6 6 = 1");
        holds(sentence, RERUN + "begin 9; weigh 1; of 6 6 = 201; of 0 6 = 141; of 3 6 = 90; end; of 6 6 = 1;"
            + "of 0 6 = 141; done; of 0 6 = 1");
        holds(sentence, "begin 1; weigh 500000000; begin 2; weigh 500000000; of 0 6 = 1000000000; of 1 6 = 500000000;"
            + "end; end; of 0 6 = 1000000000");
    }

    private static void ofThrows() {
        int[] whats = {0, 1, 2, 3, 4, 5, 6};
        String sentence = "IllegalArgumentException if there is none such";
        for (int what : whats) {
            String end = " " + what + " = IAE;";
            holds(sentence, SAMPLE + "of -1" + end + "of 6" + end + "of 599" + end + "of 600" + end + "of 1200"
                + end + "of MIN" + end + "of MAX" + end);
            holds(sentence, "of -1" + end + "of 0" + end + "of 599" + end + "of 600" + end + "of MIN" + end
                + "of MAX" + end);
            holds(sentence, "begin 1; begin 2; end; end; stale 0; toBegin; resume; done; of 1" + end + "wipe; of 0"
                + end + "of 1" + end);
        }
        sentence = "IllegalArgumentException if there is none such, or what";
        holds(sentence, SAMPLE + "of 0 -1 = IAE; of 0 7 = IAE; of 0 8 = IAE; of 0 MIN = IAE; of 0 MAX = IAE;"
            + "of 5 7 = IAE; of 5 -1 = IAE");
        holds(sentence, SAMPLE + "of 6 7 = IAE; of -1 -1 = IAE; of MIN MIN = IAE; of MAX MAX = IAE");
        holds(sentence, "of 0 -1 = IAE; of 0 7 = IAE; begin 1; of 0 -1 = IAE; of 0 7 = IAE; of 0 MIN = IAE;"
            + "of 0 MAX = IAE");
        holds(sentence, TAKEN_OVER_OPEN + "of 6 7 = IAE; of 6 -1 = IAE; of 1 7 = IAE; of 7 0 = IAE");
    }

    private static void event() {
        promise = "Promise 13";
        holds("The k-th EVENT of the LINE, from 0 on: 2 * NUMBER, for an END 1 more", "begin 1; event 0 = 0; begin 2;"
            + "event 1 = 2; end; event 2 = 3; end; event 3 = 1");
        String sentence = "NONE if there is none";
        holds(sentence, "event 0 = NONE; event -1 = NONE; event 1 = NONE; event 1199 = NONE; event 1200 = NONE;"
            + "event MIN = NONE; event MAX = NONE");
        holds(sentence, SAMPLE + "event 11 = 11; event 12 = NONE; event -1 = NONE; event 1199 = NONE;"
            + "event 1200 = NONE; event MIN = NONE; event MAX = NONE");
        holds(sentence, RERUN + "done; event 3 = 11; event 4 = NONE; event 11 = NONE; wipe; event 0 = NONE");
        holds(sentence, RERUN + "take 5; event 5 = 11; event 6 = NONE");
        holds(sentence, "begin 1; event 0 = 0; event 1 = NONE; toEnd = false; end; toBegin; event 0 = 0; event 1 = 1;"
            + "event 2 = NONE");
    }

    private static void look() {
        promise = "Promise 14";
        holds("which 0: INTERVALS, 1: EVENTS, ..", SAMPLE + "weigh 5; looks 6 12 12 1 215 0 NONE NONE 0 0; begin 9;"
            + "weigh 1; looks 7 13 13 1 216 0 NONE 6 0 0");
        holds("which 0: INTERVALS, 1: EVENTS, ..", TAKEN + "stale 1; stale 5; looks 6 12 2 3 200 2 1 NONE 2 2");
        holds("which 0: INTERVALS, 1: EVENTS, ..", UPPER_RERUN + "begin 9; begin 9; looks 8 14 5 4 170 0 2 7 1 0");
        holds("6: the INTERVAL of the last FRAME (NONE for the first one)", "look 6 = NONE; begin 1; look 6 = NONE;"
            + "end; stale 0; toBegin; look 6 = NONE; resume; look 6 = 0; done; look 6 = NONE");
        holds("7: the last OPEN one of that FRAME (NONE without one)", "look 7 = NONE; begin 1; look 7 = 0; begin 2;"
            + "look 7 = 1; end; look 7 = 0; end; look 7 = NONE");
        holds("7: the last OPEN one of that FRAME (NONE without one)", TAKEN_OVER_OPEN + "look 7 = NONE; stale 2;"
            + "resume; look 7 = NONE; done; done; look 7 = 6");
        holds("8: 1 if that is a RERUN FRAME, 2 if a TAKEN one, 0 for the first", "look 8 = 0;" + UPPER_RERUN
            + "look 8 = 1; done; look 8 = 2; done; look 8 = 1; done; look 8 = 0");
        String sentence = "NONE for any other which";
        String others = "look -1 = NONE; look 10 = NONE; look 11 = NONE; look MIN = NONE; look MAX = NONE;";
        holds(sentence, others);
        holds(sentence, SAMPLE + others);
        holds(sentence, TAKEN_OVER_OPEN + others);
        holds(sentence, UPPER_RERUN + others + "wipe;" + others);
    }

    public static void main(String[] args) {
        uses();
        terms();
        newObject();
        begin();
        end();
        weigh();
        stale();
        resume();
        take();
        done();
        toEnd();
        toBegin();
        wipe();
        of();
        event();
        look();
        System.out.println(wrong == 0 ? "all " + held + " runs hold" : wrong + " faults");
        if (wrong != 0) {
            System.exit(1);
        }
    }
}
