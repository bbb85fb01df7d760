/** The edges of days and words (promises 18 to 22). */
public final class WordEdgesTest {
    private static final int NONE = TongueSwap.NONE;
    private static final int[] SPANS = {1, 2, 4, 8, 16, 32};
    private static final Check check = new Check("edges of words");

    public static void main(String[] args) {
        daysAreZeroToAThousand();
        wordsAreNumberedFromZero();
        thereAreForty();
        aWordIsDueOnTheDayItCame();
        notDueBeforeItsDay();
        boxesEndAtFive();
        wrongIsBoxZero();
        dueFromNowAndNotFromItsDay();
        weeksMakeWordsDue();
        nextOfNone();
        nextIsWhatWasDueFirst();
        nextOfLikeOnesTheLeast();
        check.end();
    }

    private static void due(String what, Object got, Object due) {
        check.due(what, got, due);
    }

    private static String word(TongueSwap x, int word) {
        return "box " + x.wordOf(0, word, 0) + ", day " + x.wordOf(0, word, 1);
    }

    /** "n DAYS go by: DAY"; "n is not 0 to 1000". */
    private static void daysAreZeroToAThousand() {
        TongueSwap x = new TongueSwap();
        due("0", x.days(0), 0);
        due("1", x.days(1), 1);
        due("1000", x.days(1000), 1001);
        check.illegal("1001", () -> x.days(1001));
        check.illegal("-1", () -> x.days(-1));
        due("DAY is as it was", x.count(1), 1001);
        due("999", x.days(999), 2000);
    }

    /** "WORDS of a LEARNER, numbered from 0 on": its number. */
    private static void wordsAreNumberedFromZero() {
        TongueSwap x = Scene.learners(0, 0);
        for (int i = 0; i < 40; i++) {
            due("number of 0's", x.word(0), i);
            due("number of 1's", x.word(1), i);
        }
        due("the first of 0", x.wordOf(0, 0, 0), 0);
        due("the last of 1", x.wordOf(1, 39, 0), 0);
        check.noSuch("no WORD 40", () -> x.wordOf(1, 40, 0));
    }

    /** "NONE: there are 40." */
    private static void thereAreForty() {
        check.refused("a forty-first", NONE, Scene::fullTown, x -> x.word(0));
        TongueSwap x = Scene.fullTown();
        for (int i = 0; i < 3; i++) {
            due("full", x.word(0), NONE);
        }
        check.noSuch("none came", () -> x.wordOf(0, 40, 0));
        due("another's first", x.word(13), 0);
        due("the last can be asked", x.asked(0, 39, true), true);
        x.days(1);
        due("still full", x.word(0), NONE);
        due("the first is as it was", word(x, 0), "box 0, day 0");
    }

    /** "(at first 0 and the DAY it came)"; DUE: "its DAY is not after now". */
    private static void aWordIsDueOnTheDayItCame() {
        TongueSwap x = Scene.learners(0);
        x.word(0);
        due("on DAY 0", word(x, 0), "box 0, day 0");
        x.days(5);
        x.word(0);
        due("on DAY 5", word(x, 1), "box 0, day 5");
        due("asked on the DAY it came", x.asked(0, 1, true), true);
        due("asked later", x.asked(0, 0, true), true);
        due("twice on a day", x.asked(0, 0, true), false);
    }

    /** "False, and nothing changes: it isn't DUE": the day before, and the day itself. */
    private static void notDueBeforeItsDay() {
        // In the town WORD 1 is due on day 9 and WORD 2 on day 8; it is day 8.
        check.refused("a day early, right", false, Scene::town, x -> x.asked(0, 1, true));
        check.refused("a day early, wrong", false, Scene::town, x -> x.asked(0, 1, false));
        TongueSwap x = Scene.town();
        due("WORD 1", word(x, 1), "box 1, day 9");
        due("WORD 2", word(x, 2), "box 0, day 8");
        due("on its day", x.asked(0, 2, true), true);
        due("WORD 2", word(x, 2), "box 1, day 10");
        x.days(1);
        due("on its day", x.asked(0, 1, false), true);
        due("WORD 1", word(x, 1), "box 0, day 10");
    }

    /** "right: BOX is 1 more (5 at most), DUE 1, 2, 4, 8, 16, 32 DAYS from now for the new BOX 0 to 5". */
    private static void boxesEndAtFive() {
        TongueSwap x = Scene.learners(0);
        x.word(0);
        int day = 0;
        for (int time = 1; time <= 8; time++) {
            int box = Math.min(5, time);
            due("right", x.asked(0, 0, true), true);
            due("after " + time, word(x, 0), "box " + box + ", day " + (day + SPANS[box]));
            x.days(SPANS[box] - 1);
            due("a day early", x.asked(0, 0, true), false);
            day = x.days(1);
        }
    }

    /** "wrong: BOX 0, DUE in 1 DAY", from every BOX. */
    private static void wrongIsBoxZero() {
        for (int box = 0; box <= 5; box++) {
            TongueSwap x = Scene.learners(0);
            x.word(0);
            for (int time = 1; time <= box; time++) {
                x.asked(0, 0, true);
                x.days(SPANS[time]);
            }
            int day = x.count(1);
            due("box", x.wordOf(0, 0, 0), box);
            due("wrong in " + box, x.asked(0, 0, false), true);
            due("from " + box, word(x, 0), "box 0, day " + (day + 1));
            due("not twice", x.asked(0, 0, false), false);
            x.days(1);
            due("right again", x.asked(0, 0, true), true);
            due("from 0", word(x, 0), "box 1, day " + (day + 3));
        }
    }

    /** "DAYS from now": a WORD that is asked late is not due the earlier for it. */
    private static void dueFromNowAndNotFromItsDay() {
        TongueSwap x = Scene.learners(0);
        x.word(0);
        x.word(0);
        x.days(1000);
        x.asked(0, 0, true);
        x.asked(0, 1, false);
        due("right", word(x, 0), "box 1, day 1002");
        due("wrong", word(x, 1), "box 0, day 1001");
    }

    /** A WEEK is seven DAYS for WORDS too. */
    private static void weeksMakeWordsDue() {
        TongueSwap x = Scene.learners(0);
        x.word(0);
        x.asked(0, 0, true);
        x.days(2);
        x.asked(0, 0, true);
        x.days(4);
        x.asked(0, 0, true);
        due("in 8 days", word(x, 0), "box 3, day 14");
        x.week();
        due("a day early", x.asked(0, 0, true), false);
        due("none is due", x.next(0), NONE);
        x.days(1);
        due("due", x.next(0), 0);
    }

    /** next: "NONE": no WORDS, and none that is DUE. */
    private static void nextOfNone() {
        TongueSwap x = Scene.learners(0, 0);
        due("no WORDS", x.next(0), NONE);
        x.word(1);
        due("none of one's own", x.next(0), NONE);
        due("one", x.next(1), 0);
        x.asked(1, 0, false);
        due("due tomorrow", x.next(1), NONE);
        x.days(1);
        due("due today", x.next(1), 0);
        x.days(1);
        due("due yesterday", x.next(1), 0);
    }

    /** "The WORD that was DUE first of those that are DUE". */
    private static void nextIsWhatWasDueFirst() {
        TongueSwap x = Scene.learners(0);
        for (int i = 0; i < 40; i++) {
            x.word(0);
        }
        for (int i = 0; i < 40; i++) {
            due("asked one by one", x.next(0), i);
            x.asked(0, i, i != 39 && i != 17);
        }
        due("all are asked", x.next(0), NONE);
        x.days(1);
        due("17, wrong", x.next(0), 17);
        x.asked(0, 17, true);
        due("39, wrong", x.next(0), 39);
        x.days(1);
        due("39 was first, not 0", x.next(0), 39);
        x.asked(0, 39, true);
        due("0 is due today", x.next(0), 0);
    }

    /** "(of like ones the least)". */
    private static void nextOfLikeOnesTheLeast() {
        TongueSwap x = Scene.learners(0);
        for (int i = 0; i < 4; i++) {
            x.word(0);
        }
        x.asked(0, 0, true);
        x.days(1);
        due("1, 2, 3 alike", x.next(0), 1);
        x.asked(0, 2, true);
        x.asked(0, 1, true);
        due("3", x.next(0), 3);
        x.days(2);
        due("3 was due on day 0", x.next(0), 3);
        x.asked(0, 3, true);
        due("0 was due on day 2", x.next(0), 0);
        x.asked(0, 0, true);
        due("1 and 2 on day 3", x.next(0), 1);
        x.asked(0, 1, true);
        due("2 on day 3", x.next(0), 2);
    }
}
