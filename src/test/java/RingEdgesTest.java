/** The edges of gifts, meetings and rings (promises 10 to 12). */
public final class RingEdgesTest {
    private static final int NONE = TongueSwap.NONE;
    private static final String NO_RING = "-1 -1 -1";
    private static final Check check = new Check("edges of rings");

    public static void main(String[] args) {
        aGiftIsTheFirstWantThatIsHad();
        noGift();
        twoMeetInTheLeastHour();
        twoDoNotMeet();
        aRingOfTwoNeedsBothGifts();
        aRingOfTwoNeedsAnHour();
        theLeastOneIsFirst();
        noLearnerIsTwiceInARing();
        aRingOfThreeNeedsAllThreeGifts();
        aRingOfThreeNeedsThreeUnlikeHours();
        theFirstRowOfHours();
        aBarBetweenAnyTwoOfThree();
        theLastLearnersMakeARing();
        check.end();
    }

    private static void due(String what, Object got, Object due) {
        check.due(what, got, due);
    }

    /** "a HAS some of b's WANTS: the first such one." */
    private static void aGiftIsTheFirstWantThatIsHad() {
        TongueSwap x = Scene.learners(0, 0);
        x.want(1, 7);
        x.want(1, 0);
        due("has none", x.gift(0, 1), NONE);
        x.claim(0, 0, 8);
        due("has the second", x.gift(0, 1), 0);
        x.claim(0, 7, 7);
        due("a CLAIM of 7 is too small", x.gift(0, 1), 0);
        x.claim(0, 7, 8);
        due("has both", x.gift(0, 1), 7);
        x.claim(0, 0, 0);
        due("has the first", x.gift(0, 1), 7);
        x.claim(0, 7, 0);
        due("has none again", x.gift(0, 1), NONE);
    }

    /** "The TONGUE of the GIFT from a to b; NONE." */
    private static void noGift() {
        TongueSwap x = Scene.learners(0, 0);
        for (int t = 0; t < 8; t++) {
            x.claim(0, t, 10);
        }
        due("1 wants nothing", x.gift(0, 1), NONE);
        x.want(1, 3);
        due("1 wants 3", x.gift(0, 1), 3);
        due("1 has nothing", x.gift(1, 0), NONE);
        x.want(0, 3);
        due("0 wants what 1 has not", x.gift(1, 0), NONE);
        x.bar(0, 1, true);
        due("neither hours nor BARS matter", x.gift(0, 1), 3);
    }

    /** "The least hour in which two can MEET". */
    private static void twoMeetInTheLeastHour() {
        due("the first hour", Scene.learners(1, 1).meet(0, 1), 0);
        due("the last hour", Scene.learners(1 << 23, 1 << 23).meet(0, 1), 23);
        due("all hours", Scene.learners(-1, -1).meet(0, 1), 0);
        due("the least of two", Scene.learners(0b11010, 0b11001).meet(0, 1), 3);
        due("in either order", Scene.learners(0b11010, 0b11001).meet(1, 0), 3);
    }

    /** "a and b can MEET in an hour that both can, if no BAR is between them"; "NONE". */
    private static void twoDoNotMeet() {
        due("neither can", Scene.learners(0, 0).meet(0, 1), NONE);
        due("one can't", Scene.learners(-1, 0).meet(0, 1), NONE);
        due("not in one hour", Scene.learners(0x555555, 0xAAAAAA).meet(0, 1), NONE);
        due("bits above the hours", Scene.learners(1 << 24, 1 << 24).meet(0, 1), NONE);
        TongueSwap x = Scene.learners(-1, -1);
        x.bar(1, 0, true);
        due("a BAR", x.meet(0, 1), NONE);
        due("a BAR", x.meet(1, 0), NONE);
        x.bar(0, 1, false);
        due("no BAR any more", x.meet(0, 1), 0);
    }

    /** "each of whom has a GIFT for the next one, and the last for the first". */
    private static void aRingOfTwoNeedsBothGifts() {
        due("no gift", Scene.gifts(2, "00").ring(0, 1, NONE, 0), NONE);
        due("one way", Scene.gifts(2, "01").ring(0, 1, NONE, 0), NONE);
        due("the other way", Scene.gifts(2, "10").ring(0, 1, NONE, 0), NONE);
        due("both ways", Scene.gifts(2, "0-1").ring(0, 1, NONE, 0), 0);
    }

    /** "Of two: they MEET in the least hour in which they can". */
    private static void aRingOfTwoNeedsAnHour() {
        TongueSwap x = Scene.gifts(2, "0-1");
        x.hours(0, 1 << 23);
        due("the last hour", x.ring(0, 1, NONE, 0), 23);
        x.hours(0, 0);
        due("no hour", x.ring(0, 1, NONE, 0), NONE);
        x.hours(0, 0b1100);
        due("the least hour", x.ring(0, 1, NONE, 0), 2);
        x.bar(0, 1, true);
        due("a BAR", x.ring(0, 1, NONE, 0), NONE);
    }

    /** "NONE: it is no RING (also if a isn't the least ..)". */
    private static void theLeastOneIsFirst() {
        TongueSwap x = Scene.friends(3);
        due("(0 1)", x.ring(0, 1, NONE, 0), 0);
        due("(1 0)", x.ring(1, 0, NONE, 0), NONE);
        due("(0 1 2)", Scene.hours(x, 0, 1, 2), "0 1 2");
        due("(0 2 1)", Scene.hours(x, 0, 2, 1), "0 1 2");
        due("(1 0 2)", Scene.hours(x, 1, 0, 2), NO_RING);
        due("(1 2 0)", Scene.hours(x, 1, 2, 0), NO_RING);
        due("(2 0 1)", Scene.hours(x, 2, 0, 1), NO_RING);
        due("(2 1 0)", Scene.hours(x, 2, 1, 0), NO_RING);
    }

    /** "(also if .. two are one)". */
    private static void noLearnerIsTwiceInARing() {
        TongueSwap x = Scene.friends(2);
        due("(0 0)", x.ring(0, 0, NONE, 0), NONE);
        due("(1 1)", x.ring(1, 1, NONE, 0), NONE);
        for (int i = 0; i < 3; i++) {
            due("(0 0 1)", x.ring(0, 0, 1, i), NONE);
            due("(0 1 0)", x.ring(0, 1, 0, i), NONE);
            due("(0 1 1)", x.ring(0, 1, 1, i), NONE);
            due("(0 0 0)", x.ring(0, 0, 0, i), NONE);
        }
    }

    /** "each of whom has a GIFT for the next one, and the last for the first", of three. */
    private static void aRingOfThreeNeedsAllThreeGifts() {
        due("all", Scene.hours(Scene.gifts(3, "01 12 20"), 0, 1, 2), "0 1 2");
        due("the other way round", Scene.hours(Scene.gifts(3, "01 12 20"), 0, 2, 1), NO_RING);
        due("not 0 to 1", Scene.hours(Scene.gifts(3, "10 12 20"), 0, 1, 2), NO_RING);
        due("not 1 to 2", Scene.hours(Scene.gifts(3, "01 21 20"), 0, 1, 2), NO_RING);
        due("not 2 to 0", Scene.hours(Scene.gifts(3, "01 12 02"), 0, 1, 2), NO_RING);
        due("two of two are no three", Scene.hours(Scene.gifts(3, "0-1 1-2"), 0, 1, 2), NO_RING);
        TongueSwap x = Scene.gifts(3, "02 21 10");
        due("(0 2 1)", Scene.hours(x, 0, 2, 1), "0 1 2");
        due("(0 1 2)", Scene.hours(x, 0, 1, 2), NO_RING);
        due("nor of two", x.ring(0, 1, NONE, 0) + x.ring(0, 2, NONE, 0) + x.ring(1, 2, NONE, 0), -3);
    }

    /** "in three unlike hours .. if there is one (else it is no RING)". */
    private static void aRingOfThreeNeedsThreeUnlikeHours() {
        TongueSwap x = Scene.gifts(3, "01 12 20");
        int[][] none = {{0, 0, 0}, {1, 1, 1}, {3, 3, 3}, {0, -1, -1}, {-1, 0, -1}, {-1, -1, 0}, {1, -1, -1}, {-1, 1, -1},
            {-1, -1, 1}, {3, 3, -1}, {1, 2, -1}, {0x800000, 0xC00000, 0xC00000}};
        for (int[] row : none) {
            setHours(x, row);
            due("too few hours", Scene.hours(x, 0, 1, 2), NO_RING);
        }
        setHours(x, 7, 7, 7);
        due("just enough", Scene.hours(x, 0, 1, 2), "0 1 2");
        setHours(x, 0xE00000, 0xE00000, 0xE00000);
        due("the last three", Scene.hours(x, 0, 1, 2), "21 22 23");
        setHours(x, 0x800001, 0x000401, 0x800400);
        due("one hour for each two", Scene.hours(x, 0, 1, 2), "0 10 23");
        setHours(x, 0x800001, 0x800400, 0x000401);
        due("one hour for each two", Scene.hours(x, 0, 1, 2), "23 10 0");
    }

    private static void setHours(TongueSwap x, int... hours) {
        for (int i = 0; i < hours.length; i++) {
            x.hours(i, hours[i]);
        }
    }

    /** "the first such row of hours": all rows of four hours for three learners. */
    private static void theFirstRowOfHours() {
        for (int a = 0; a < 16; a++) {
            for (int b = 0; b < 16; b++) {
                for (int c = 0; c < 16; c++) {
                    TongueSwap x = Scene.gifts(3, "01 12 20");
                    // Two hours at the front and two at the end of the week.
                    setHours(x, spread(a), spread(b), spread(c));
                    due("hours " + a + " " + b + " " + c, Scene.hours(x, 0, 1, 2),
                        firstRow(spread(a) & spread(b), spread(b) & spread(c), spread(c) & spread(a)));
                }
            }
        }
    }

    private static int spread(int four) {
        return four & 3 | (four & 12) << 20;
    }

    private static String firstRow(int first, int second, int third) {
        for (int row = 0; row < 24 * 24 * 24; row++) {
            int p = row / 576;
            int q = row / 24 % 24;
            int r = row % 24;
            if (p != q && q != r && r != p && (first >> p & second >> q & third >> r & 1) == 1) {
                return p + " " + q + " " + r;
            }
        }
        return NO_RING;
    }

    /** "BARS .. they don't meet": one is enough. */
    private static void aBarBetweenAnyTwoOfThree() {
        int[][] pairs = {{0, 1}, {1, 2}, {2, 0}};
        for (int[] pair : pairs) {
            TongueSwap x = Scene.gifts(3, "01 12 20");
            x.bar(pair[0], pair[1], true);
            due("a BAR between " + pair[0] + " and " + pair[1], Scene.hours(x, 0, 1, 2), NO_RING);
            x.bar(pair[1], pair[0], false);
            due("none any more", Scene.hours(x, 0, 1, 2), "0 1 2");
        }
    }

    /** The fourteenth is in RINGS as the others are. */
    private static void theLastLearnersMakeARing() {
        TongueSwap x = Scene.friends(14);
        due("(12 13)", x.ring(12, 13, NONE, 0), 0);
        due("(0 13)", x.ring(0, 13, NONE, 0), 0);
        due("(11 12 13)", Scene.hours(x, 11, 12, 13), "0 1 2");
        due("(11 13 12)", Scene.hours(x, 11, 13, 12), "0 1 2");
        due("(13 11 12)", Scene.hours(x, 13, 11, 12), NO_RING);
        check.noSuch("(12 13 14)", () -> x.ring(12, 13, 14, 0));
    }
}
