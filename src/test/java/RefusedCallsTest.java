import java.util.LinkedHashMap;
import java.util.Map;

/** Every call with every argument outside what there is: the exception that is due, and nothing changes. */
public final class RefusedCallsTest {
    private static final int NONE = TongueSwap.NONE;
    private static final int MIN = Integer.MIN_VALUE;
    private static final int MAX = Integer.MAX_VALUE;
    /** As shifts 32 to 34 and -32 to -30 would be the learners 0 to 2. */
    private static final int[] NO_LEARNERS = {-1, -2, 3, 4, 13, 14, 32, 33, 34, -32, -31, -30, MIN, MAX};
    private static final int[] NO_TONGUES = {-1, 8, 9, 32, MIN, MAX};
    private static final Check check = new Check("refused calls");

    interface DeedOf {
        Object on(TongueSwap x, int argument);
    }

    public static void main(String[] args) {
        noSuchLearner();
        noLearnersAtAll();
        noSuchTongue();
        bothAreOne();
        noSuchLevel();
        noSuchGrade();
        noSuchPart();
        noSuchHourOfRing();
        noSuchRing();
        noSuchWord();
        noSuchMark();
        noSuchDays();
        noSuchCorrection();
        noSuchElementFirst();
        check.end();
    }

    /** "NoSuchElementException: no such LEARNER (as everywhere)." */
    private static void noSuchLearner() {
        for (Map.Entry<String, DeedOf> deed : deedsOfLearners().entrySet()) {
            for (int who : NO_LEARNERS) {
                // c NONE is a ring of two, no wrong learner.
                if (who != NONE || !deed.getKey().equals("ring, c")) {
                    check.refusedNoSuch(deed.getKey() + " of LEARNER " + who, Scene::town, x -> deed.getValue().on(x, who));
                }
            }
        }
    }

    /** "No LEARNERS" in a new object: 0 is none either. */
    private static void noLearnersAtAll() {
        for (Map.Entry<String, DeedOf> deed : deedsOfLearners().entrySet()) {
            check.refusedNoSuch(deed.getKey() + " of nobody", TongueSwap::new, x -> deed.getValue().on(x, 0));
        }
    }

    private static Map<String, DeedOf> deedsOfLearners() {
        Map<String, DeedOf> deeds = new LinkedHashMap<>();
        deeds.put("hours", (x, i) -> x.hours(i, 1));
        deeds.put("claim", (x, i) -> x.claim(i, 0, 1));
        deeds.put("want", (x, i) -> x.want(i, 3));
        deeds.put("unwant", (x, i) -> x.unwant(i));
        deeds.put("bar, a", (x, i) -> x.bar(i, 1, true));
        deeds.put("bar, b", (x, i) -> x.bar(1, i, true));
        deeds.put("test", (x, i) -> x.test(i, 0, 5, true));
        deeds.put("level", (x, i) -> x.level(i, 0, 0));
        deeds.put("gift, a", (x, i) -> x.gift(i, 1));
        deeds.put("gift, b", (x, i) -> x.gift(1, i));
        deeds.put("meet, a", (x, i) -> x.meet(i, 1));
        deeds.put("meet, b", (x, i) -> x.meet(1, i));
        deeds.put("ring, a of two", (x, i) -> x.ring(i, 1, NONE, 0));
        deeds.put("ring, b of two", (x, i) -> x.ring(0, i, NONE, 0));
        deeds.put("ring, a", (x, i) -> x.ring(i, 1, 2, 0));
        deeds.put("ring, b", (x, i) -> x.ring(0, i, 2, 0));
        deeds.put("ring, c", (x, i) -> x.ring(0, 1, i, 0));
        deeds.put("missed", (x, i) -> x.missed(i));
        deeds.put("waited", (x, i) -> x.waited(i));
        deeds.put("word", (x, i) -> x.word(i));
        deeds.put("asked", (x, i) -> x.asked(i, 0, true));
        deeds.put("wordOf", (x, i) -> x.wordOf(i, 0, 0));
        deeds.put("next", (x, i) -> x.next(i));
        return deeds;
    }

    /** "NoSuchElementException: also no such TONGUE (as everywhere)." */
    private static void noSuchTongue() {
        for (int t : NO_TONGUES) {
            check.refusedNoSuch("claim of TONGUE " + t, Scene::town, x -> x.claim(0, t, 5));
            check.refusedNoSuch("want of TONGUE " + t, Scene::town, x -> x.want(1, t));
            check.refusedNoSuch("want of TONGUE " + t + " of one who has two", Scene::town, x -> x.want(0, t));
            check.refusedNoSuch("test of TONGUE " + t, Scene::town, x -> x.test(0, t, 5, true));
            check.refusedNoSuch("level of TONGUE " + t, Scene::town, x -> x.level(0, t, 0));
        }
    }

    /** "NoSuchElementException: also both are one" (bar, gift, meet). */
    private static void bothAreOne() {
        for (int i = 0; i < 3; i++) {
            int who = i;
            check.refusedNoSuch("bar of " + who + " alone", Scene::town, x -> x.bar(who, who, true));
            check.refusedNoSuch("no bar of " + who + " alone", Scene::town, x -> x.bar(who, who, false));
            check.refusedNoSuch("gift of " + who + " alone", Scene::town, x -> x.gift(who, who));
            check.refusedNoSuch("meet of " + who + " alone", Scene::town, x -> x.meet(who, who));
        }
    }

    /** claim: "IllegalArgumentException: it is not 0 to 10." */
    private static void noSuchLevel() {
        for (int level : new int[] {-1, 11, 12, MIN, MAX}) {
            check.refusedIllegal("claim of " + level, Scene::town, x -> x.claim(2, 2, level));
        }
    }

    /** test: "IllegalArgumentException: no such GRADE" (1 to 10): it is not counted, neither as ODD nor else. */
    private static void noSuchGrade() {
        for (int grade : new int[] {0, 11, -1, 12, MIN, MAX}) {
            check.refusedIllegal("test passed of GRADE " + grade, Scene::town, x -> x.test(2, 5, grade, true));
            check.refusedIllegal("test failed of GRADE " + grade, Scene::town, x -> x.test(2, 5, grade, false));
        }
    }

    /** "NoSuchElementException: another what" (level, wordOf, count). */
    private static void noSuchPart() {
        for (int what : new int[] {-1, 6, 7, MIN, MAX}) {
            check.refusedNoSuch("level, what " + what, Scene::town, x -> x.level(2, 5, what));
        }
        for (int what : new int[] {-1, 2, 3, MIN, MAX}) {
            check.refusedNoSuch("wordOf, what " + what, Scene::town, x -> x.wordOf(0, 0, what));
        }
        for (int what : new int[] {-1, 5, 6, MIN, MAX}) {
            check.refusedNoSuch("count, what " + what, Scene::town, x -> x.count(what));
        }
    }

    /** ring: "NoSuchElementException: i is not 0 (0 to 2 of three)", be it a RING or none. */
    private static void noSuchHourOfRing() {
        for (int i : new int[] {-1, 1, 2, 3, MIN, MAX}) {
            check.refusedNoSuch("hour " + i + " of a RING of two", Scene::town, x -> x.ring(0, 1, NONE, i));
            check.refusedNoSuch("hour " + i + " of no RING of two", Scene::town, x -> x.ring(1, 2, NONE, i));
        }
        for (int i : new int[] {-1, 3, 4, MIN, MAX}) {
            check.refusedNoSuch("hour " + i + " of a RING of three", () -> Scene.friends(3), x -> x.ring(0, 1, 2, i));
            check.refusedNoSuch("hour " + i + " of no RING of three", Scene::town, x -> x.ring(0, 1, 2, i));
        }
    }

    /** ringOf: "NoSuchElementException: there is none, another what." */
    private static void noSuchRing() {
        for (int k : new int[] {-1, 1, 2, 7, MIN, MAX}) {
            check.refusedNoSuch("RING " + k, Scene::town, x -> x.ringOf(k, 0));
        }
        for (int what : new int[] {-1, 6, 7, MIN, MAX}) {
            check.refusedNoSuch("ringOf, what " + what, Scene::town, x -> x.ringOf(0, what));
            check.refusedNoSuch("ringOf, no RING and what " + what, Scene::town, x -> x.ringOf(1, what));
        }
        check.refusedNoSuch("RING 0 before a WEEK", () -> Scene.friends(2), x -> x.ringOf(0, 0));
    }

    /** asked, wordOf: "NoSuchElementException: no such WORD": 0 has three, 1 has none. */
    private static void noSuchWord() {
        for (int word : new int[] {-1, 3, 4, 39, 40, MIN, MAX}) {
            check.refusedNoSuch("asked for WORD " + word, Scene::town, x -> x.asked(0, word, true));
            check.refusedNoSuch("asked wrong for WORD " + word, Scene::town, x -> x.asked(0, word, false));
            check.refusedNoSuch("wordOf WORD " + word, Scene::town, x -> x.wordOf(0, word, 0));
        }
        check.refusedNoSuch("asked for a WORD of another", Scene::town, x -> x.asked(1, 0, true));
        check.refusedNoSuch("wordOf a WORD of another", Scene::town, x -> x.wordOf(1, 0, 1));
        for (int word : new int[] {-1, 40, MAX}) {
            check.refusedNoSuch("asked for WORD " + word + " of 40", Scene::fullTown, x -> x.asked(0, word, true));
            check.refusedNoSuch("wordOf WORD " + word + " of 40", Scene::fullTown, x -> x.wordOf(0, word, 0));
        }
    }

    /** mark: "NoSuchElementException: there is none"; marks: "NoSuchElementException: no such kind." */
    private static void noSuchMark() {
        // The town's latest correction has twelve marks.
        for (int i : new int[] {-2, 12, 13, 40, 80, MIN, MAX}) {
            check.refusedNoSuch("MARK " + i, Scene::town, x -> x.mark(i));
        }
        check.refusedNoSuch("MARK 0 before a CORRECTION", TongueSwap::new, x -> x.mark(0));
        for (int kind : new int[] {-1, 5, 6, MIN, MAX}) {
            check.refusedNoSuch("MARKS of kind " + kind, Scene::town, x -> x.marks(kind));
            check.refusedNoSuch("MARKS of kind " + kind + " before a CORRECTION", TongueSwap::new, x -> x.marks(kind));
        }
    }

    /** days: "IllegalArgumentException: n is not 0 to 1000." */
    private static void noSuchDays() {
        for (int n : new int[] {-1, 1001, 1002, MIN, MAX}) {
            check.refusedIllegal("days " + n, Scene::town, x -> x.days(n));
        }
    }

    /** correct: "IllegalArgumentException: n, m are not 0 to 40, the tape has not so many (nothing changes)." */
    private static void noSuchCorrection() {
        int[][] outside = {{-1, 0}, {0, -1}, {-1, -1}, {-1, 5}, {5, -1}, {41, 0}, {0, 41}, {41, 41}, {41, -1}, {-1, 41},
            {MIN, 0}, {0, MIN}, {MIN, MIN}, {MAX, 0}, {0, MAX}, {MAX, MAX}, {MAX, MIN}, {MIN, MAX}};
        for (int[] p : outside) {
            String call = "correct(" + p[0] + ", " + p[1] + ")";
            check.refusedIllegal(call + " of 20 bytes", Scene::town, x -> x.correct(p[0], p[1]));
            check.refusedIllegal(call + " of 80 bytes", Scene::fullTown, x -> x.correct(p[0], p[1]));
            check.refusedIllegal(call + " of an empty tape", TongueSwap::new, x -> x.correct(p[0], p[1]));
        }
        for (int[] p : new int[][] {{10, 11}, {11, 10}, {21, 0}, {0, 21}, {20, 1}, {1, 20}, {40, 40}, {40, 0}, {0, 40}}) {
            String call = "correct(" + p[0] + ", " + p[1] + ")";
            check.refusedIllegal(call + " of 20 bytes", Scene::town, x -> x.correct(p[0], p[1]));
        }
        for (int[] p : new int[][] {{1, 0}, {0, 1}, {1, 1}, {40, 40}}) {
            String call = "correct(" + p[0] + ", " + p[1] + ")";
            check.refusedIllegal(call + " of an empty tape", TongueSwap::new, x -> x.correct(p[0], p[1]));
        }
    }

    /** Where two exceptions could be due: the one that the document names first. */
    private static void noSuchElementFirst() {
        check.refusedNoSuch("claim: LEARNER and level", Scene::town, x -> x.claim(3, 0, 11));
        check.refusedNoSuch("claim: TONGUE and level", Scene::town, x -> x.claim(0, 8, -1));
        check.refusedNoSuch("test: LEARNER and GRADE", Scene::town, x -> x.test(-1, 0, 0, true));
        check.refusedNoSuch("test: TONGUE and GRADE", Scene::town, x -> x.test(0, 8, 11, false));
    }
}
