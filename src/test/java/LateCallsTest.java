import java.util.Random;

/**
 * Behind its 512th call an object may answer what it likes, but the Java machine may not throw in it:
 * with its rows full, with as many frames as there can be, and in mixed runs, with any arguments.
 * What the class throws by itself is its own affair there.
 */
public final class LateCallsTest {
    private static final int MANY = 1500;
    private static final int[] NUMBERS = {
        Integer.MIN_VALUE, Integer.MIN_VALUE + 1, -1, 0, 1, 6, 7, 63, 64, 65, 511, 512, 598, 599, 600, 601,
        1199, 1200, 1000000000, Integer.MAX_VALUE};
    private static int wrong = 0;

    private static boolean isTheMachines(RuntimeException e) {
        // An ArithmeticException of the class's own can't be told from a division's; it has no reason for one.
        return e instanceof ArithmeticException || e instanceof NullPointerException
            || e instanceof ArrayIndexOutOfBoundsException || e instanceof NegativeArraySizeException
            || e instanceof ClassCastException || e instanceof ArrayStoreException;
    }

    private static void call(TraceLine t, int which, int a, int b) {
        switch (which) {
            case 0: t.begin(a); break;
            case 1: t.end(); break;
            case 2: t.weigh(a); break;
            case 3: t.stale(a); break;
            case 4: t.resume(); break;
            case 5: t.take(a); break;
            case 6: t.done(); break;
            case 7: t.toEnd(); break;
            case 8: t.toBegin(); break;
            case 9: t.of(a, b); break;
            case 10: t.event(a); break;
            case 11: t.look(a); break;
            default: t.wipe();
        }
    }

    private static void play(String run, TraceLine t, int which, int a, int b) {
        try {
            call(t, which, a, b);
        } catch (RuntimeException e) {
            if (isTheMachines(e)) {
                wrong++;
                System.out.println(run + ": call " + which + " with " + a + ", " + b + " let the machine throw " + e);
            }
        }
    }

    private static void many(String run, TraceLine t, int which, int a) {
        for (int i = 0; i < MANY; i++) {
            play(run, t, which, a, 0);
        }
    }

    private static void askAll(String run, TraceLine t) {
        for (int i = -2; i < MANY; i++) {
            for (int what = -1; what <= 7; what++) {
                play(run, t, 9, i, what);
            }
            play(run, t, 10, i, 0);
            play(run, t, 11, i, 0);
        }
    }

    private static void eachWithOddNumbers(String run, TraceLine t) {
        for (int which = 0; which < 12; which++) {
            for (int a : NUMBERS) {
                play(run, t, which, a, 6);
                play(run, t, which, 0, a);
            }
        }
    }

    private static void fullOfOpenOnes() {
        TraceLine t = new TraceLine();
        many("open ones", t, 0, 7);
        askAll("open ones", t);
        eachWithOddNumbers("open ones", t);
        many("open ones end", t, 1, 0);
        many("ended ones", t, 0, 7);
        askAll("ended ones", t);
        eachWithOddNumbers("ended ones", t);
    }

    private static void fullOfSmallOnes() {
        TraceLine t = new TraceLine();
        for (int i = 0; i < MANY; i++) {
            play("small ones", t, 0, i, 0);
            play("small ones", t, 1, 0, 0);
        }
        askAll("small ones", t);
        for (int i = 0; i < MANY; i++) {
            play("small ones", t, 3, i, 0);
        }
        play("small ones", t, 8, 0, 0);
        for (int i = 0; i < MANY; i++) {
            play("small ones again", t, 4, 0, 0);
            play("small ones again", t, 0, i, 0);
            play("small ones again", t, 1, 0, 0);
            play("small ones again", t, 6, 0, 0);
        }
        askAll("small ones again", t);
    }

    private static void fullOfFrames() {
        TraceLine t = new TraceLine();
        many("frames", t, 0, 7);
        many("frames", t, 1, 0);
        for (int i = 0; i < MANY; i += 2) {
            play("frames", t, 3, i, 0);
        }
        play("frames", t, 8, 0, 0);
        for (int i = 0; i < MANY; i++) {
            play("frames", t, i % 2 == 0 ? 4 : 5, 7, 0);
        }
        askAll("frames", t);
        many("frames", t, 0, 7);
        many("frames", t, 1, 0);
        many("frames", t, 6, 0);
        askAll("frames", t);
        eachWithOddNumbers("frames", t);
    }

    private static int someNumber(Random r) {
        return r.nextInt(10) == 0 ? NUMBERS[r.nextInt(NUMBERS.length)] : r.nextInt(8);
    }

    private static void mixed(int seed) {
        Random r = new Random(seed);
        TraceLine t = new TraceLine();
        for (int i = 0; i < 20000; i++) {
            // Wiped seldom, so that the rows fill up.
            int which = r.nextInt(3000) == 0 ? 12 : r.nextInt(12);
            int a = which == 3 ? r.nextInt(620) : someNumber(r);
            play("mixed " + seed, t, which, a, r.nextInt(7));
        }
    }

    public static void main(String[] args) {
        fullOfOpenOnes();
        fullOfSmallOnes();
        fullOfFrames();
        for (int seed = 0; seed < 20; seed++) {
            mixed(seed);
        }
        System.out.println(wrong == 0 ? "the machine never throws" : "the machine threw " + wrong + " times");
        if (wrong != 0) {
            System.exit(1);
        }
    }
}
