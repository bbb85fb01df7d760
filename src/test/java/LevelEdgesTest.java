/** The edges of spans and tests, and of what a learner has (promises 4, 8 and 9). */
public final class LevelEdgesTest {
    private static final Check check = new Check("edges of levels");

    public static void main(String[] args) {
        aSpanIsZeroToTenAtFirst();
        passedLowIsAtLeastOneLess();
        failedHighIsAtMostTheGrade();
        lowOnlyRisesAndHighOnlyFalls();
        oddIsLowAboveHigh();
        oddIsCountedAndChangesNothing();
        gradesAreOneToTen();
        hasByLowOfSeven();
        hasByClaimOfEightWithoutTests();
        eachTongueIsItsOwn();
        manyTestsAreCounted();
        check.end();
    }

    private static void due(String what, Object got, Object due) {
        check.due(what, got, due);
    }

    private static String span(TongueSwap x, int tongue) {
        return x.level(0, tongue, 0) + " to " + x.level(0, tongue, 1);
    }

    private static String tests(TongueSwap x, int tongue) {
        return x.level(0, tongue, 3) + " and " + x.level(0, tongue, 4);
    }

    /** "a SPAN, LOW to HIGH (0 to 10 at first)", and no TESTS. */
    private static void aSpanIsZeroToTenAtFirst() {
        TongueSwap x = Scene.learners(0);
        for (int t = 0; t < 8; t++) {
            due("SPAN of " + t, span(x, t), "0 to 10");
            due("TESTS of " + t, tests(x, t), "0 and 0");
            due("CLAIM of " + t, x.level(0, t, 2), 0);
            due("HAS " + t, x.level(0, t, 5), 0);
        }
    }

    /** "passed, LOW is at least g - 1": the first TEST is never ODD. */
    private static void passedLowIsAtLeastOneLess() {
        for (int g = 1; g <= 10; g++) {
            TongueSwap x = Scene.learners(0);
            due("passed " + g, x.test(0, 0, g, true), true);
            due("SPAN", span(x, 0), (g - 1) + " to 10");
            due("TESTS", tests(x, 0), "1 and 0");
        }
    }

    /** "failed, HIGH is at most g". */
    private static void failedHighIsAtMostTheGrade() {
        for (int g = 1; g <= 10; g++) {
            TongueSwap x = Scene.learners(0);
            due("failed " + g, x.test(0, 0, g, false), true);
            due("SPAN", span(x, 0), "0 to " + g);
            due("TESTS", tests(x, 0), "1 and 0");
        }
    }

    /** "at least", "at most": a lower pass and a higher fail leave the SPAN, but are counted. */
    private static void lowOnlyRisesAndHighOnlyFalls() {
        TongueSwap x = Scene.learners(0);
        x.test(0, 0, 6, true);
        for (int g = 1; g <= 6; g++) {
            due("passed " + g + " after 6", x.test(0, 0, g, true), true);
        }
        due("LOW stays", span(x, 0), "5 to 10");
        x.test(0, 0, 7, false);
        for (int g = 7; g <= 10; g++) {
            due("failed " + g + " after 7", x.test(0, 0, g, false), true);
        }
        due("HIGH stays", span(x, 0), "5 to 7");
        due("all are counted", tests(x, 0), "12 and 0");
    }

    /** "one by which LOW would be above HIGH is ODD": alike ones are not. */
    private static void oddIsLowAboveHigh() {
        for (int p = 1; p <= 10; p++) {
            for (int f = 1; f <= 10; f++) {
                boolean isSound = p - 1 <= f;
                String counts = isSound ? "2 and 0" : "1 and 1";
                TongueSwap x = Scene.learners(0);
                x.test(0, 0, p, true);
                due("passed " + p + ", failed " + f, x.test(0, 0, f, false), isSound);
                due("SPAN", span(x, 0), (p - 1) + " to " + (isSound ? f : 10));
                due("TESTS", tests(x, 0), counts);
                TongueSwap y = Scene.learners(0);
                y.test(0, 0, f, false);
                due("failed " + f + ", passed " + p, y.test(0, 0, p, true), isSound);
                due("SPAN", span(y, 0), (isSound ? p - 1 : 0) + " to " + f);
                due("TESTS", tests(y, 0), counts);
            }
        }
    }

    /** "it is counted, and changes nothing". */
    private static void oddIsCountedAndChangesNothing() {
        TongueSwap x = Scene.learners(0);
        x.claim(0, 0, 10);
        x.test(0, 0, 3, false);
        due("ODD", x.test(0, 0, 10, true), false);
        due("SPAN", span(x, 0), "0 to 3");
        due("TESTS", tests(x, 0), "1 and 1");
        due("CLAIM", x.level(0, 0, 2), 10);
        due("HAS", x.level(0, 0, 5), 0);
        due("ODD again", x.test(0, 0, 5, true), false);
        due("TESTS", tests(x, 0), "1 and 2");
        due("not ODD: LOW is HIGH", x.test(0, 0, 4, true), true);
        due("SPAN of one", span(x, 0), "3 to 3");
        due("ODD below", x.test(0, 0, 2, false), false);
        due("ODD above", x.test(0, 0, 5, true), false);
        due("SPAN of one", span(x, 0), "3 to 3");
        due("TESTS", tests(x, 0), "2 and 4");
    }

    /** "of a GRADE g (1 to 10)". */
    private static void gradesAreOneToTen() {
        TongueSwap x = Scene.learners(0);
        check.illegal("passed 0", () -> x.test(0, 0, 0, true));
        check.illegal("failed 0", () -> x.test(0, 0, 0, false));
        check.illegal("passed 11", () -> x.test(0, 0, 11, true));
        check.illegal("failed 11", () -> x.test(0, 0, 11, false));
        due("none counted", tests(x, 0), "0 and 0");
        due("passed 1", x.test(0, 0, 1, true), true);
        due("failed 1", x.test(0, 0, 1, false), true);
        due("SPAN", span(x, 0), "0 to 1");
        due("passed 10", x.test(0, 1, 10, true), true);
        due("failed 10", x.test(0, 1, 10, false), true);
        due("SPAN", span(x, 1), "9 to 10");
    }

    /** "A LEARNER HAS a TONGUE, if LOW is 7 or more". */
    private static void hasByLowOfSeven() {
        for (int g = 1; g <= 10; g++) {
            TongueSwap x = Scene.learners(0);
            x.test(0, 6, g, true);
            due("HAS after passing " + g, x.level(0, 6, 5), g >= 8 ? 1 : 0);
        }
        TongueSwap x = Scene.learners(0, 0);
        x.want(1, 6);
        x.test(0, 6, 7, true);
        due("LOW of 6 gives nothing", x.gift(0, 1), TongueSwap.NONE);
        x.test(0, 6, 8, true);
        due("LOW of 7 gives", x.gift(0, 1), 6);
        x.test(0, 6, 7, false);
        due("HIGH of 7 too", x.level(0, 6, 5), 1);
        due("ODD fails take nothing", x.test(0, 6, 1, false), false);
        due("LOW of 7 still gives", x.gift(0, 1), 6);
    }

    /** "or if there was no TEST of it (that wasn't ODD) and the CLAIM is 8 or more". */
    private static void hasByClaimOfEightWithoutTests() {
        for (int level = 0; level <= 10; level++) {
            TongueSwap x = Scene.learners(0);
            x.claim(0, 1, level);
            due("HAS by CLAIM of " + level, x.level(0, 1, 5), level >= 8 ? 1 : 0);
            x.test(0, 1, 10, false);
            due("not once failed at 10, CLAIM of " + level, x.level(0, 1, 5), 0);
            due("SPAN as at first", span(x, 1), "0 to 10");
        }
        TongueSwap x = Scene.learners(0);
        x.claim(0, 1, 10);
        x.test(0, 1, 1, true);
        due("nor once passed at 1", x.level(0, 1, 5), 0);
        due("SPAN as at first", span(x, 1), "0 to 10");
        x.claim(0, 1, 9);
        due("nor by a new CLAIM", x.level(0, 1, 5), 0);
        x.test(0, 1, 9, true);
        x.claim(0, 1, 0);
        due("by LOW without a CLAIM", x.level(0, 1, 5), 1);
        x.claim(0, 2, 8);
        x.claim(0, 2, 7);
        due("a CLAIM that falls below 8", x.level(0, 2, 5), 0);
    }

    /** TESTS of one TONGUE, or of one LEARNER, leave the others as they were. */
    private static void eachTongueIsItsOwn() {
        TongueSwap x = Scene.learners(0, 0);
        x.claim(0, 0, 8);
        x.claim(1, 7, 8);
        x.test(0, 7, 9, true);
        x.test(0, 7, 4, false);
        due("its own", span(x, 7) + ", " + tests(x, 7), "8 to 10, 1 and 1");
        due("another TONGUE", span(x, 0) + ", " + tests(x, 0), "0 to 10, 0 and 0");
        due("another TONGUE is had", x.level(0, 0, 5), 1);
        due("another LEARNER", x.level(1, 7, 3) + x.level(1, 7, 4), 0);
        due("another LEARNER has it", x.level(1, 7, 5), 1);
    }

    /** All the TESTS that 512 calls leave room for. */
    private static void manyTestsAreCounted() {
        TongueSwap x = Scene.learners(0);
        x.test(0, 0, 10, true);
        for (int i = 0; i < 508; i++) {
            x.test(0, 0, i < 200 ? 8 : 10, i >= 200);
        }
        due("TESTS", tests(x, 0), "309 and 200");
    }
}
