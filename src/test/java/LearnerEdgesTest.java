/** The edges of learners, their hours, claims, wants and bars (promises 1 to 7). */
public final class LearnerEdgesTest {
    private static final int NONE = TongueSwap.NONE;
    private static final int MIN = Integer.MIN_VALUE;
    private static final Check check = new Check("edges of learners");

    public static void main(String[] args) {
        aNewObjectIsEmpty();
        learnersAreNumberedFromZero();
        thereAreFourteen();
        onlyTheLowest24BitsAreHours();
        hoursAreWhatTheyWere();
        claimsAreZeroToTen();
        tonguesAreZeroToSeven();
        atMostTwoWants();
        aWantIsUnlikeTheOther();
        wantsAreInOrder();
        allWantsGo();
        noBarsAtFirst();
        aBarIsBetweenTwo();
        whoIsBarredDoesNotMeet();
        check.end();
    }

    private static void due(String what, Object got, Object due) {
        check.due(what, got, due);
    }

    /** "No LEARNERS, DAY 0." */
    private static void aNewObjectIsEmpty() {
        TongueSwap x = new TongueSwap();
        due("new: LEARNERS", x.count(0), 0);
        due("new: DAY", x.count(1), 0);
        due("new: weeks", x.count(2), 0);
        due("new: LEARNERS of RINGS", x.count(3), 0);
        due("new: tape", x.count(4), 0);
        due("new: RINGS", x.rings(), 0);
        due("new: MARKS", x.mark(NONE), 0);
        due("new: MARKS of each kind", Scene.kinds(x), "0 0 0 0 0");
        due("new: no DAYS go by", x.days(0), 0);
        due("new: nothing to nothing", x.correct(0, 0), 0);
        due("new: a WEEK of nobody", x.week(), 0);
        due("new: one object knows nothing of another", new TongueSwap().count(2), 0);
    }

    /** "LEARNERS, numbered from 0 on": the number. */
    private static void learnersAreNumberedFromZero() {
        TongueSwap x = new TongueSwap();
        for (int i = 0; i < 14; i++) {
            due("LEARNERS ahead of " + i, x.count(0), i);
            due("number", x.learner(0), i);
        }
        due("all can be asked for", Scene.waits(x), "0 0 0 0 0 0 0 0 0 0 0 0 0 0");
    }

    /** "NONE: there are 14." */
    private static void thereAreFourteen() {
        check.refused("a fifteenth", NONE, Scene::fullTown, x -> x.learner(1));
        check.refused("a fifteenth without hours", NONE, Scene::fullTown, x -> x.learner(0));
        TongueSwap x = Scene.friends(14);
        for (int i = 0; i < 3; i++) {
            due("full", x.learner(-1), NONE);
        }
        due("full: LEARNERS", x.count(0), 14);
        check.noSuch("full: no LEARNER 14", () -> x.hours(14, 0));
        due("full: the last is as it was", x.hours(13, 0), 0xFFFFFF);
    }

    /** "A LEARNER who can in HOURS (the lowest 24 bits)". */
    private static void onlyTheLowest24BitsAreHours() {
        int[][] rows = {{0, NONE}, {1, 0}, {1 << 22, 22}, {1 << 23, 23}, {1 << 24, NONE}, {1 << 30, NONE}, {MIN, NONE},
            {0xFF000000, NONE}, {0xFF800000, 23}, {-1, 0}, {-2, 1}, {Integer.MAX_VALUE, 0}};
        for (int[] row : rows) {
            TongueSwap x = Scene.learners(row[0], -1);
            due("least hour of " + row[0], x.meet(0, 1), row[1]);
            due("least hour of " + row[0], x.meet(1, 0), row[1]);
            due("what they were", x.hours(0, row[0]), row[0] & 0xFFFFFF);
            TongueSwap y = Scene.learners(-1, 0);
            due("none ahead", y.hours(1, row[0]), 0);
            due("least hour of others, " + row[0], y.meet(0, 1), row[1]);
            due("what they were then", y.hours(1, 0), row[0] & 0xFFFFFF);
        }
        for (int h = 0; h < 24; h++) {
            due("hour " + h, Scene.learners(1 << h, -1).meet(0, 1), h);
        }
    }

    /** "HOURS are others: what they were." */
    private static void hoursAreWhatTheyWere() {
        TongueSwap x = Scene.learners(6, 9);
        due("at first", x.hours(0, 0), 6);
        due("none", x.hours(0, 0), 0);
        due("none", x.hours(0, -1), 0);
        due("all", x.hours(0, 5), 0xFFFFFF);
        due("of another", x.hours(1, 9), 9);
        due("the same again", x.hours(1, 9), 9);
    }

    /** "a CLAIM (0 to 10; 0 at first)": what it was. */
    private static void claimsAreZeroToTen() {
        TongueSwap x = Scene.learners(0, 0);
        int before = 0;
        for (int level = 0; level <= 10; level++) {
            due("CLAIM ahead of " + level, x.claim(1, 4, level), before);
            due("CLAIM", x.level(1, 4, 2), level);
            before = level;
        }
        due("from 10 to 0", x.claim(1, 4, 0), 10);
        due("0", x.level(1, 4, 2), 0);
        due("of another", x.level(0, 4, 2), 0);
        check.illegal("-1", () -> x.claim(1, 4, -1));
        check.illegal("11", () -> x.claim(1, 4, 11));
    }

    /** "TONGUES 0 to 7." */
    private static void tonguesAreZeroToSeven() {
        TongueSwap x = Scene.learners(0, 0);
        for (int t = 0; t < 8; t++) {
            due("CLAIM of TONGUE " + t, x.claim(0, t, 8), 0);
            due("LOW of TONGUE " + t, x.level(0, t, 0), 0);
            due("WANT of TONGUE " + t, x.want(1, t), 1);
            due("GIFT of TONGUE " + t, x.gift(0, 1), t);
            due("unwant", x.unwant(1), 1);
            due("TEST of TONGUE " + t, x.test(0, t, t + 1, true), true);
        }
        for (int t = 0; t < 8; t++) {
            due("each its own LOW", x.level(0, t, 0), t);
        }
    }

    /** want: "NONE: there are two". */
    private static void atMostTwoWants() {
        TongueSwap x = Scene.learners(0);
        due("the first", x.want(0, 0), 1);
        due("the second", x.want(0, 7), 2);
        for (int t = 0; t < 8; t++) {
            due("a third, " + t, x.want(0, t), NONE);
        }
        due("still two", x.unwant(0), 2);
        check.refused("a third", NONE, Scene::town, y -> y.want(0, 5));
    }

    /** want: "NONE: .. or that one is"; "WANTS (unlike TONGUES)". */
    private static void aWantIsUnlikeTheOther() {
        TongueSwap x = Scene.learners(0, 0);
        due("the first", x.want(0, 3), 1);
        due("it is", x.want(0, 3), NONE);
        due("another's is no matter", x.want(1, 3), 1);
        due("still one", x.want(0, 0), 2);
        check.refused("one that is", NONE, Scene::town, y -> y.want(1, 0));
        check.refused("the second of two", NONE, Scene::town, y -> y.want(0, 2));
    }

    /** "A WANT more, behind the other one". */
    private static void wantsAreInOrder() {
        TongueSwap x = Scene.learners(0, 0);
        x.claim(0, 1, 10);
        x.claim(0, 6, 10);
        x.want(1, 6);
        x.want(1, 1);
        due("6, then 1", x.gift(0, 1), 6);
        x.unwant(1);
        x.want(1, 1);
        x.want(1, 6);
        due("1, then 6", x.gift(0, 1), 1);
    }

    /** "All WANTS go: how many there were." */
    private static void allWantsGo() {
        TongueSwap x = Scene.learners(0, 0);
        x.claim(1, 2, 8);
        due("none", x.unwant(0), 0);
        x.want(0, 2);
        due("one", x.unwant(0), 1);
        due("it is gone", x.gift(1, 0), NONE);
        due("and can come again", x.want(0, 2), 1);
        due("a second", x.want(0, 3), 2);
        due("two", x.unwant(0), 2);
        due("none again", x.unwant(0), 0);
        due("the second first", x.want(0, 3), 1);
        due("another's stay", x.want(1, 0) * 10 + x.unwant(0) * 2 + x.unwant(1), 13);
    }

    /** "BARS between two (none at first)", up to the fourteenth. */
    private static void noBarsAtFirst() {
        TongueSwap x = Scene.friends(14);
        for (int a = 0; a < 14; a++) {
            for (int b = a + 1; b < 14; b++) {
                due("no BAR between " + a + " and " + b, x.bar(a, b, true), false);
            }
        }
        for (int a = 0; a < 14; a++) {
            for (int b = a + 1; b < 14; b++) {
                due("a BAR between " + b + " and " + a, x.bar(b, a, true), true);
            }
        }
        due("nobody meets", x.week(), 0);
    }

    /** "A BAR is between two, or none: whether there was", in either order. */
    private static void aBarIsBetweenTwo() {
        TongueSwap x = Scene.learners(1, 1, 1);
        due("none to take away", x.bar(0, 2, false), false);
        due("none yet", x.bar(2, 0, true), false);
        due("one", x.bar(0, 2, true), true);
        due("no second one to take away first", x.bar(2, 0, false), true);
        due("none left", x.bar(0, 2, false), false);
        due("none left", x.bar(2, 0, false), false);
        due("others have none", x.bar(0, 1, false) || x.bar(1, 2, false), false);
    }

    /** "BARS between two: they don't meet." */
    private static void whoIsBarredDoesNotMeet() {
        TongueSwap x = Scene.friends(3);
        x.bar(2, 0, true);
        due("0 and 2", x.meet(0, 2), NONE);
        due("2 and 0", x.meet(2, 0), NONE);
        due("0 and 1", x.meet(0, 1), 0);
        due("1 and 2", x.meet(1, 2), 0);
        due("no RING", x.ring(0, 2, NONE, 0), NONE);
        due("no RING of three", Scene.hours(x, 0, 1, 2), "-1 -1 -1");
        due("no RING of three", Scene.hours(x, 0, 2, 1), "-1 -1 -1");
        due("a RING", x.ring(0, 1, NONE, 0), 0);
        due("two MEET", x.week(), 2);
        x.bar(0, 2, false);
        due("without it three MEET", x.week(), 3);
    }
}
