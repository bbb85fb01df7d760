import java.lang.management.ManagementFactory;
import java.lang.reflect.Method;
import java.util.Arrays;
import java.util.Random;

/** Objects at their fullest: all their 512 calls, the counts then, and the room that they take (promise 27 among them). */
public final class CallsTest {
    private static final int NONE = TongueSwap.NONE;
    private static final int MOST_CALLS = 512;
    private static final Check check = new Check("all calls");

    public static void main(String[] args) {
        countsAtFirstAndWhenFull();
        theLastDay();
        theLastWeek();
        theLastWords();
        theLastCorrection();
        weeksWithLearnersBetween();
        callsFarBeyond();
        daysThatWrapRound();
        theRoomOfOneObject();
        check.end();
    }

    private static void due(String what, Object got, Object due) {
        check.due(what, got, due);
    }

    private static String counts(TongueSwap x) {
        return x.count(0) + " " + x.count(1) + " " + x.count(2) + " " + x.count(3) + " " + x.count(4);
    }

    /** "0 LEARNERS, 1 DAY, 2 weeks so far, 3 LEARNERS of RINGS in all weeks, 4 bytes of the tape". */
    private static void countsAtFirstAndWhenFull() {
        due("at first", counts(new TongueSwap()), "0 0 0 0 0");
        TongueSwap x = Scene.fullTown();
        due("full", counts(x), "14 0 0 0 80");
        x.week();
        x.days(1000);
        x.correct(1, 1);
        due("later", counts(x), "14 1007 1 14 0");
        check.noSuch("another what", () -> x.count(5));
        check.noSuch("another what", () -> x.count(-1));
    }

    /** The DAY after as many DAYS as 512 calls can bring. */
    private static void theLastDay() {
        TongueSwap x = new TongueSwap();
        for (int call = 1; call < MOST_CALLS; call++) {
            x.days(1000);
        }
        due("call 512", x.days(1000), 512000);
    }

    /** A WEEK in the 512th call, of fourteen who met in all the weeks ahead. */
    private static void theLastWeek() {
        TongueSwap x = Scene.friends(14);
        int weeks = MOST_CALLS - 3 * 14;
        for (int w = 1; w < weeks; w++) {
            due("week " + w, x.week(), 14);
        }
        due("call 512", x.week(), 14);
        TongueSwap y = Scene.friends(14);
        for (int w = 1; w < weeks; w++) {
            y.week();
        }
        due("call 512, LEARNERS of RINGS", y.count(3), 14 * (weeks - 1));
    }

    /** A WORD that is asked far from DAY 0. */
    private static void theLastWords() {
        TongueSwap x = Scene.learners(0);
        x.word(0);
        int days = MOST_CALLS - 5;
        for (int i = 0; i < days; i++) {
            x.days(1000);
        }
        due("next", x.next(0), 0);
        due("asked", x.asked(0, 0, true), true);
        due("call 512", x.wordOf(0, 0, 1), 1000 * days + 2);
    }

    /** The tape is filled and emptied in all calls. */
    private static void theLastCorrection() {
        TongueSwap x = new TongueSwap();
        for (int round = 0; round < MOST_CALLS / 5; round++) {
            for (int i = 1; i <= 4; i++) {
                due("feed " + i, x.feed(round, round, round, round, round), 20 * i);
            }
            due("correct", x.correct(40, 40), 0);
        }
        due("call 511", x.mark(39), 0);
        due("call 512", x.mark(NONE), 40);
    }

    /** Each LEARNER comes after a WEEK without: nobody is lost, and every WEEK is of those that there are. */
    private static void weeksWithLearnersBetween() {
        TongueSwap x = new TongueSwap();
        for (int i = 1; i <= 14; i++) {
            Scene.addFriend(x);
            due("week of " + i, x.week(), i == 1 ? 0 : i);
        }
        for (int i = 13; i >= 2; i--) {
            x.unwant(i);
            due("week without " + i, x.week(), i);
        }
        x.unwant(1);
        due("week of nobody", x.week(), 0);
    }

    /** "what later calls answer is free", but they end, and throw what the face names or nothing (LANGUAGE.md, rule 7). */
    private static void callsFarBeyond() {
        for (int seed = 0; seed < 5; seed++) {
            Random random = new Random(seed);
            TongueSwap x = seed == 0 ? new TongueSwap() : Scene.fullTown();
            for (int call = 0; call < 50_000; call++) {
                throwsNothingElse(x, Caller.NAMES[random.nextInt(Caller.NAMES.length)], random);
            }
        }
    }

    /** Far beyond all calls that are promised, where an int can't hold the DAY any more. */
    private static void daysThatWrapRound() {
        TongueSwap x = Scene.fullTown();
        for (int i = 0; i < Integer.MAX_VALUE / 1000 + 1; i++) {
            x.days(1000);
            if (i % 1000 == 0) {
                x.asked(0, i / 1000 % 40, true);
            }
        }
        Random random = new Random(9);
        for (int call = 0; call < 20_000; call++) {
            throwsNothingElse(x, Caller.NAMES[random.nextInt(Caller.NAMES.length)], random);
        }
    }

    private static void throwsNothingElse(TongueSwap x, String name, Random random) {
        int[] arguments = Caller.anyArguments(name, random);
        Object answer = Check.answer(() -> Caller.call(x, name, arguments));
        if (!(answer instanceof String)) {
            return;
        }
        boolean isNamed = false;
        for (Method m : TongueSwap.class.getMethods()) {
            for (Class<?> type : m.getExceptionTypes()) {
                isNamed |= m.getName().equals(name) && type.getSimpleName().equals(answer);
            }
        }
        if (!isNamed) {
            due(name + Arrays.toString(arguments), answer, "what the face names");
        }
    }

    /** Objects are made in constructors, by learner, and once for each size by week: some 40,000 elements in all. */
    private static void theRoomOfOneObject() {
        fullRun();
        long before = allocated();
        fullRun();
        long taken = allocated() - before;
        due("room of a full run is small, not " + taken, taken < 400_000, true);
    }

    private static void fullRun() {
        TongueSwap x = new TongueSwap();
        for (int i = 0; i < 14; i++) {
            Scene.addFriend(x);
            x.week();
        }
        for (int i = 0; i < 80; i++) {
            x.feed(i, i, i, i, i);
            x.correct(10, 10);
            x.word(0);
            x.ring(0, 1, 2, 0);
            x.week();
        }
    }

    private static long allocated() {
        return ((com.sun.management.ThreadMXBean) ManagementFactory.getThreadMXBean()).getCurrentThreadAllocatedBytes();
    }
}
