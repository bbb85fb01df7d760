/** The edges of the week, its rings, and who waited or missed it (promises 13 to 17). */
public final class WeekEdgesTest {
    private static final int NONE = TongueSwap.NONE;
    private static final Check check = new Check("edges of weeks");

    public static void main(String[] args) {
        aWeekOfNobody();
        aWeekWithoutRings();
        noLearnerIsTwice();
        theGreatestSum();
        theSumComesAheadOfTheNumber();
        theSumComesAheadOfFewerRingsOfThree();
        theSumComesAheadOfFourRingsOfThree();
        fewerRingsOfThree();
        theFirstSetAsRows();
        aRingAheadOfNone();
        aRowAheadOfOneThatGoesOn();
        ringsInOrderOfTheirFirst();
        allFourteenMeet();
        thirteenMeet();
        onlyTheLastOnesMeet();
        whoMeetsHasWaitedZero();
        twentyWeeksAtMost();
        theWeightStopsAtTwenty();
        sevenDaysMore();
        theLatestWeek();
        partsOfARing();
        missedBeforeAWeek();
        missedOnceForEachWeek();
        missedOfThree();
        missedCountsThreeWeeks();
        learnersOfAllWeeks();
        check.end();
    }

    private static void due(String what, Object got, Object due) {
        check.due(what, got, due);
    }

    private static void dueRings(String what, TongueSwap x, String rings) {
        x.week();
        due(what, Scene.rings(x), rings);
    }

    /** "A WEEK: how many LEARNERS MEET": nobody is there. */
    private static void aWeekOfNobody() {
        TongueSwap x = new TongueSwap();
        due("nobody", x.week(), 0);
        due("no RINGS", x.rings(), 0);
        due("weeks", x.count(2), 1);
        due("DAY", x.count(1), 7);
        due("nobody again", x.week(), 0);
        due("one who comes has waited 0", Scene.friends(1).waited(0), 0);
        x.learner(-1);
        due("one alone", x.week(), 0);
        due("waited", x.waited(0), 1);
        due("weeks", x.count(2), 3);
    }

    /** No RING at all: all have waited one week more. */
    private static void aWeekWithoutRings() {
        TongueSwap x = Scene.gifts(3, "01 12 02");
        due("no RINGS", x.week(), 0);
        due("none", Scene.rings(x), "");
        due("all wait", Scene.waits(x), "1 1 1");
        TongueSwap y = Scene.friends(2);
        y.hours(0, 1);
        y.hours(1, 2);
        due("no hour", y.week(), 0);
        TongueSwap z = Scene.friends(3);
        for (int i = 0; i < 3; i++) {
            z.hours(i, 3);
        }
        due("two hours are too few for three", z.week(), 2);
        due("two of them", Scene.rings(z), "(0 1)");
    }

    /** "sets of RINGS in which no LEARNER is twice". */
    private static void noLearnerIsTwice() {
        dueRings("a row of pairs", Scene.gifts(3, "0-1 1-2"), "(0 1)");
        dueRings("a star", Scene.gifts(5, "0-4 1-4 2-4 3-4"), "(0 4)");
        dueRings("two triangles by one corner", Scene.gifts(5, "01 12 20 23 34 42"), "(0 1 2)");
        dueRings("a round of five", Scene.gifts(5, "0-1 1-2 2-3 3-4 4-0"), "(0 1)(2 3)");
    }

    /** "that of the greatest sum of WEIGHTS". */
    private static void theGreatestSum() {
        dueRings("two rings for one", Scene.gifts(4, "0-1 1-2 2-3"), "(0 1)(2 3)");
        dueRings("the least stays with another", Scene.gifts(4, "0-1 0-2 1-3"), "(0 2)(1 3)");
        dueRings("the least stays out", Scene.gifts(5, "0-1 12 23 31"), "(1 2 3)");
        dueRings("three for two", Scene.gifts(3, "0-1 12 20"), "(0 1 2)");
        dueRings("five for four", Scene.gifts(5, "0-1 2-3 34 42"), "(0 1)(2 3 4)");
    }

    /** "WEIGHT of a LEARNER is 1, and the weeks waited": fewer who waited more, and alike sums. */
    private static void theSumComesAheadOfTheNumber() {
        // The RINGS are (0 1) and (1 2 3).
        TongueSwap x = Scene.gifts(4, "0-1 12 23 31");
        dueRings("3 for 2", x, "(1 2 3)");
        due("0 waits", Scene.waits(x), "1 0 0 0");
        dueRings("3 for 3, fewer of three", x, "(0 1)");
        due("two wait", Scene.waits(x), "0 0 1 1");
        x.bar(1, 2, true);
        x.hours(0, 0);
        x.week();
        x.week();
        due("all waited", Scene.waits(x), "2 2 3 3");
        x.bar(1, 2, false);
        x.hours(0, -1);
        dueRings("11 for 6", x, "(1 2 3)");
        x.bar(0, 1, true);
        x.week();
        x.week();
        due("0 waited most", Scene.waits(x), "5 0 0 0");
        x.bar(0, 1, false);
        due("two who waited for three who did not", x.week(), 2);
        due("7 for 3", Scene.rings(x), "(0 1)");
    }

    /** The sum is looked at ahead of the number of RINGS of three, however many there are. */
    private static void theSumComesAheadOfFewerRingsOfThree() {
        // 5 waits while the others meet as pairs; then two triangles are worth 7, the three pairs 6.
        TongueSwap x = Scene.gifts(7, "01 12 20 34 45 53 0-3 1-4 2-6");
        x.unwant(5);
        dueRings("pairs without 5", x, "(0 3)(1 4)(2 6)");
        due("5 waits", Scene.waits(x), "0 0 0 0 0 1 0");
        x.want(5, 5);
        dueRings("two of three for one WEIGHT more", x, "(0 1 2)(3 4 5)");
    }

    /** The most RINGS of three that a set can have, four, for one WEIGHT more than pairs alone. */
    private static void theSumComesAheadOfFourRingsOfThree() {
        int[][] triangles = {{0, 9, 2}, {1, 10, 11}, {3, 4, 5}, {6, 7, 8}};
        int[][] pairs = {{0, 1}, {2, 5}, {3, 10}, {4, 7}, {6, 9}, {8, 12}};
        // Pairs by which one triangle has two corners have unlike tongues, so that no side of it is a pair.
        int[] tongues = {3, 5, 4, 3, 4, 5};
        TongueSwap x = new TongueSwap();
        boolean[][] canMeet = new boolean[13][13];
        for (int i = 0; i < 13; i++) {
            x.learner(-1);
        }
        for (int[] row : triangles) {
            for (int c = 0; c < 3; c++) {
                x.claim(row[c], c, 8);
                x.want(row[c], (c + 2) % 3);
                allow(canMeet, row[c], row[(c + 1) % 3]);
            }
        }
        for (int p = 0; p < pairs.length; p++) {
            allow(canMeet, pairs[p][0], pairs[p][1]);
            for (int who : pairs[p]) {
                x.claim(who, tongues[p], 8);
                x.want(who, tongues[p]);
            }
        }
        for (int a = 0; a < 13; a++) {
            for (int b = a + 1; b < 13; b++) {
                x.bar(a, b, !canMeet[a][b]);
            }
        }
        x.unwant(11);
        dueRings("pairs without 11", x, "(0 1)(2 5)(3 10)(4 7)(6 9)(8 12)");
        x.want(11, 1);
        dueRings("13 by four of three for 12 by pairs", x, "(0 9 2)(1 10 11)(3 4 5)(6 7 8)");
    }

    private static void allow(boolean[][] canMeet, int a, int b) {
        canMeet[a][b] = true;
        canMeet[b][a] = true;
    }

    /** "of like ones that of fewer RINGS of three". */
    private static void fewerRingsOfThree() {
        dueRings("none for two", Scene.friends(6), "(0 1)(2 3)(4 5)");
        dueRings("one for three", Scene.friends(9), "(0 1)(2 3)(4 5)(6 7 8)");
        // (0 1 2) would come first as a row, but with (3 4 5) there are two of three.
        dueRings("none for two, later as a row", Scene.gifts(6, "01 12 20 34 45 53 0-3 1-4 2-5"), "(0 3)(1 4)(2 5)");
        dueRings("one for one", Scene.friends(3), "(0 1 2)");
        // The RINGS are (0 1 2), (1 3) and (2 4): the least one stays out as long as the sums are alike.
        TongueSwap x = Scene.gifts(5, "01 12 20 1-3 2-4");
        dueRings("4 for 3", x, "(1 3)(2 4)");
        dueRings("4 for 4, none of three", x, "(1 3)(2 4)");
        dueRings("4 for 5", x, "(0 1 2)");
    }

    /** "of like ones the first: .. where two sets part the RING that is first as a row". */
    private static void theFirstSetAsRows() {
        dueRings("they part at the second LEARNER", Scene.gifts(3, "0-1 0-2"), "(0 1)");
        dueRings("they part at the second RING", Scene.gifts(5, "0-1 2-3 2-4"), "(0 1)(2 3)");
        dueRings("they part at the first of the second RING", Scene.gifts(5, "0-1 2-4 3-4"), "(0 1)(2 4)");
        dueRings("they part at the third LEARNER", Scene.gifts(4, "01 12 20 13 30"), "(0 1 2)");
        dueRings("a second LEARNER ahead of a later third", Scene.gifts(4, "02 21 10 01 13 30"), "(0 1 3)");
        dueRings("both ways round", Scene.friends(3), "(0 1 2)");
        dueRings("one way round", Scene.gifts(3, "02 21 10"), "(0 2 1)");
        dueRings("the first RING decides", Scene.gifts(4, "0-1 2-3 0-2 1-3 0-3 1-2"), "(0 1)(2 3)");
        dueRings("the first RING decides", Scene.gifts(4, "0-2 1-3 0-3 1-2"), "(0 2)(1 3)");
    }

    /** "(a RING ahead of none ..)": where one set has a RING of a LEARNER and the other none. */
    private static void aRingAheadOfNone() {
        dueRings("0 or nobody with 2", Scene.gifts(3, "0-2 1-2"), "(0 2)");
        dueRings("0 or 1 in three", Scene.gifts(4, "02 23 30 12 31"), "(0 2 3)");
        dueRings("1 or nobody behind (0 3)", Scene.gifts(5, "0-3 1-4 2-4"), "(0 3)(1 4)");
    }

    /** "(.. a row ahead of one that goes on)". */
    private static void aRowAheadOfOneThatGoesOn() {
        dueRings("(0 1) ahead of (0 1 2)", Scene.friends(5), "(0 1)(2 3 4)");
        dueRings("(2 3) ahead of (2 3 4)", Scene.friends(7), "(0 1)(2 3)(4 5 6)");
        // Without (0 1): (0 1 2)(3 4) or (0 2)(1 3 4). The row 0 1 2 is ahead of 0 2, though it is longer.
        dueRings("(0 1 2) ahead of (0 2)", Scene.gifts(5, "01 12 0-2 3-4 13 41"), "(0 1 2)(3 4)");
    }

    /** "RINGS in order of their first LEARNER". */
    private static void ringsInOrderOfTheirFirst() {
        dueRings("(0 3) ahead of (1 2)", Scene.gifts(4, "0-3 1-2"), "(0 3)(1 2)");
        dueRings("(0 7), (1 6), (2 5), (3 4)", Scene.gifts(8, "3-4 2-5 1-6 0-7"), "(0 7)(1 6)(2 5)(3 4)");
        dueRings("of three and of two", Scene.gifts(7, "05 54 40 1-6 3-2"), "(0 5 4)(1 6)(2 3)");
    }

    /** "at most 14": all of them MEET, in seven RINGS. */
    private static void allFourteenMeet() {
        TongueSwap x = Scene.friends(14);
        due("all", x.week(), 14);
        due("seven", x.rings(), 7);
        due("in order", Scene.rings(x), "(0 1)(2 3)(4 5)(6 7)(8 9)(10 11)(12 13)");
        check.noSuch("no eighth", () -> x.ringOf(7, 0));
        due("nobody waits", Scene.waits(x), "0 0 0 0 0 0 0 0 0 0 0 0 0 0");
        x.learner(-1);
        due("a fifteenth is none", x.week(), 14);
    }

    /** An odd number: one RING of three, as far behind as it can be; triangles alone leave two out. */
    private static void thirteenMeet() {
        TongueSwap x = Scene.friends(13);
        due("thirteen", x.week(), 13);
        due("one of three", Scene.rings(x), "(0 1)(2 3)(4 5)(6 7)(8 9)(10 11 12)");
        TongueSwap y = new TongueSwap();
        for (int i = 0; i < 14; i++) {
            y.learner(-1);
            y.claim(i, i % 3, 8);
            y.want(i, (i + 2) % 3);
        }
        due("four of three", y.week(), 12);
        due("four of three", Scene.rings(y), "(0 1 2)(3 4 5)(6 7 8)(9 10 11)");
        due("two wait", Scene.waits(y), "0 0 0 0 0 0 0 0 0 0 0 0 1 1");
        due("they come next", y.week(), 12);
        due("they come next", Scene.rings(y), "(0 1 2)(3 4 5)(6 7 8)(11 12 13)");
        due("two others wait", Scene.waits(y), "0 0 0 0 0 0 0 0 0 1 1 0 0 0");
    }

    /** Twelve or eleven of fourteen stay out ahead of the only RING. */
    private static void onlyTheLastOnesMeet() {
        TongueSwap x = Scene.friends(14);
        for (int i = 0; i < 12; i++) {
            x.hours(i, 0);
        }
        due("two", x.week(), 2);
        due("(12 13)", Scene.rings(x), "(12 13)");
        due("the others wait", Scene.waits(x), "1 1 1 1 1 1 1 1 1 1 1 1 0 0");
        x.hours(11, -1);
        due("three", x.week(), 3);
        due("(11 12 13)", Scene.rings(x), "(11 12 13)");
        x.hours(0, -1);
        x.bar(0, 11, true);
        x.bar(0, 12, true);
        dueRings("the first and the last, who waited", x, "(0 13)(11 12)");
    }

    /** "Those of it MEET: they have waited 0 weeks then, all others one more". */
    private static void whoMeetsHasWaitedZero() {
        TongueSwap x = Scene.gifts(4, "0-1 2-3");
        x.bar(0, 1, true);
        x.bar(2, 3, true);
        x.week();
        x.week();
        due("nobody met", Scene.waits(x), "2 2 2 2");
        x.bar(2, 3, false);
        x.week();
        due("2 and 3 met", Scene.waits(x), "3 3 0 0");
        x.learner(0);
        due("one who comes", x.waited(4), 0);
        x.bar(0, 1, false);
        x.bar(2, 3, true);
        x.week();
        due("0 and 1 met", Scene.waits(x), "0 0 1 1 1");
    }

    /** "one more (20 at most)". */
    private static void twentyWeeksAtMost() {
        TongueSwap x = Scene.friends(1);
        for (int w = 1; w <= 23; w++) {
            x.week();
            due("after " + w + " weeks", x.waited(0), Math.min(20, w));
        }
        Scene.addFriend(x);
        due("both MEET", x.week(), 2);
        due("from 20 to 0", Scene.waits(x), "0 0");
    }

    /** The weeks beyond 20 count no more. */
    private static void theWeightStopsAtTwenty() {
        due("35 weeks for 25", afterWaiting(10, 25), "20 20 20 (0 1)");
        due("21 weeks for 20", afterWaiting(1, 20), "20 20 20 (0 1)");
        due("20 weeks for 19", afterWaiting(1, 19), "19 19 20 (0 2)");
        due("29 weeks for 19", afterWaiting(10, 19), "19 19 20 (0 2)");
    }

    /** 0 meets 1 and 2 waits for some weeks, then all wait for some; then 0 can meet either. */
    private static String afterWaiting(int apart, int all) {
        TongueSwap x = Scene.gifts(3, "0-1 0-2");
        x.bar(0, 2, true);
        for (int w = 0; w < apart; w++) {
            x.week();
        }
        x.bar(0, 1, true);
        for (int w = 0; w < all; w++) {
            x.week();
        }
        x.bar(0, 1, false);
        x.bar(0, 2, false);
        String waits = Scene.waits(x);
        x.week();
        return waits + " " + Scene.rings(x);
    }

    /** "DAY is 7 more." */
    private static void sevenDaysMore() {
        TongueSwap x = Scene.friends(2);
        x.days(3);
        x.week();
        due("3 and 7", x.count(1), 10);
        x.bar(0, 1, true);
        x.week();
        due("also if nobody meets", x.count(1), 17);
        due("days go on from there", x.days(0), 17);
        due("weeks are not days", x.count(2), 2);
    }

    /** "How many RINGS the latest WEEK had": none before one, and none of an earlier one. */
    private static void theLatestWeek() {
        TongueSwap x = Scene.friends(4);
        due("before one", x.rings(), 0);
        check.noSuch("before one", () -> x.ringOf(0, 0));
        x.week();
        due("two", x.rings(), 2);
        x.bar(0, 1, true);
        x.unwant(2);
        x.hours(3, 0);
        due("what changes later is no matter", Scene.rings(x), "(0 1)(2 3)");
        due("nor for its hours", x.ringOf(1, 3), 0);
        x.week();
        due("none", x.rings(), 0);
        check.noSuch("none of an earlier one", () -> x.ringOf(0, 0));
        due("who met earlier can't miss", x.missed(0), false);
        x.bar(0, 1, false);
        x.week();
        due("one", Scene.rings(x), "(0 1)");
        check.noSuch("no second one of an earlier one", () -> x.ringOf(1, 0));
    }

    /** "0 to 2 its LEARNERS (NONE: it is of two), 3 to 5 its hours (NONE likewise)". */
    private static void partsOfARing() {
        TongueSwap x = Scene.gifts(5, "0-4 13 32 21");
        x.hours(4, 1 << 23);
        for (int i = 1; i < 4; i++) {
            x.hours(i, 0xE00000);
        }
        x.week();
        int[][] parts = {{0, 4, NONE, 23, NONE, NONE}, {1, 3, 2, 21, 22, 23}};
        for (int k = 0; k < 2; k++) {
            for (int what = 0; what < 6; what++) {
                due("part " + what + " of RING " + k, x.ringOf(k, what), parts[k][what]);
            }
        }
        TongueSwap y = Scene.friends(2);
        y.week();
        due("hour 0 is no NONE", y.ringOf(0, 3), 0);
        due("LEARNER 0 is no NONE", y.ringOf(0, 0), 0);
    }

    /** "False: that one was not to MEET in the latest WEEK". */
    private static void missedBeforeAWeek() {
        check.refused("missed before a WEEK", false, () -> Scene.friends(3), x -> x.missed(0));
        check.refused("missed by one who was not to MEET", false, Scene::town, x -> x.missed(2));
        TongueSwap x = Scene.friends(2);
        x.week();
        Scene.addFriend(x);
        due("by one who came later", x.missed(2), false);
        due("nothing changes", Scene.waits(x), "0 0 0");
    }

    /** "once for each LEARNER and week"; "False: .. or MISSED it already". */
    private static void missedOnceForEachWeek() {
        check.refused("missed already", false, Scene::town, x -> x.missed(1));
        TongueSwap x = Scene.friends(2);
        x.week();
        due("0", x.missed(0), true);
        due("1 waits", Scene.waits(x), "0 3");
        due("0 again", x.missed(0), false);
        due("1 waits", Scene.waits(x), "0 3");
        due("1, to whom 0 didn't come", x.missed(1), true);
        due("0 waits", Scene.waits(x), "3 3");
        due("1 again", x.missed(1), false);
        x.week();
        due("both met", Scene.waits(x), "0 0");
        due("0 in another week", x.missed(0), true);
        due("1 waits", Scene.waits(x), "0 3");
        x.bar(0, 1, true);
        x.week();
        due("not in a week without", x.missed(0), false);
        due("waits", Scene.waits(x), "1 4");
    }

    /** "the weeks waited of those with whom that one was to MEET are 3 more each". */
    private static void missedOfThree() {
        TongueSwap x = Scene.gifts(6, "02 21 10 3-4");
        x.week();
        due("RINGS", Scene.rings(x), "(0 2 1)(3 4)");
        due("0", x.missed(0), true);
        due("1 and 2 wait", Scene.waits(x), "0 3 3 0 0 1");
        due("1", x.missed(1), true);
        due("0 and 2 wait", Scene.waits(x), "3 3 6 0 0 1");
        due("2", x.missed(2), true);
        due("6, the most in a week", Scene.waits(x), "6 6 6 0 0 1");
        due("once each", x.missed(0) || x.missed(1) || x.missed(2), false);
        due("4", x.missed(4), true);
        due("3 waits", Scene.waits(x), "6 6 6 3 0 1");
    }

    /** The three weeks count in the next WEEK as others do. */
    private static void missedCountsThreeWeeks() {
        TongueSwap x = Scene.gifts(3, "0-1 0-2");
        x.week();
        x.missed(0);
        due("waits", Scene.waits(x), "0 3 1");
        dueRings("5 for 3", x, "(0 1)");
        due("waits", Scene.waits(x), "0 0 2");
        x.missed(0);
        due("waits", Scene.waits(x), "0 3 2");
        dueRings("5 for 4", x, "(0 1)");
        x.missed(0);
        due("waits", Scene.waits(x), "0 3 3");
        dueRings("5 for 5", x, "(0 1)");
        x.missed(0);
        due("waits", Scene.waits(x), "0 3 4");
        dueRings("5 for 6", x, "(0 2)");
    }

    /** "LEARNERS of RINGS in all weeks". */
    private static void learnersOfAllWeeks() {
        TongueSwap x = Scene.friends(5);
        x.week();
        due("5", x.count(3), 5);
        x.unwant(0);
        x.week();
        due("and 4", x.count(3), 9);
        for (int i = 1; i < 5; i++) {
            x.unwant(i);
        }
        x.week();
        due("and 0", x.count(3), 9);
        due("weeks", x.count(2), 3);
    }
}
