/** The edges of the tape, of corrections and of their marks (promises 23 to 26). */
public final class TapeEdgesTest {
    private static final int NONE = TongueSwap.NONE;
    private static final Check check = new Check("edges of the tape");

    public static void main(String[] args) {
        twentyBytesCome();
        noMoreThanEighty();
        theTapeIsEmptyThenAndFillsAgain();
        theHighestByteFirst();
        allBytesAreUnlike();
        nothingToNothing();
        zeroToFortyBytes();
        asManyAsTheTapeHas();
        theFirstBytesAndThoseBehind();
        costsOfEachKind();
        twoUnlikeOnesChangePlaces();
        changesOfPlacesAtTheEnds();
        theLeastCost();
        theFirstRowOfMarks();
        theLongestRows();
        howManyMarks();
        theLatestCorrection();
        marksOfEachKind();
        check.end();
    }

    private static void due(String what, Object got, Object due) {
        check.due(what, got, due);
    }

    /** The marks of a correction in a new object, and its cost. */
    private static String marks(String said, String meant) {
        TongueSwap x = new TongueSwap();
        int cost = Scene.corrected(x, said, meant);
        return Scene.marks(x) + " costs " + cost;
    }

    private static void dueMarks(String said, String meant, String due) {
        due(said + " to " + meant, marks(said, meant), due);
    }

    /** Bytes that are all unlike, from the given one on. */
    private static String unlike(int from, int count) {
        StringBuilder text = new StringBuilder();
        for (int i = 0; i < count; i++) {
            text.append((char) (from + i));
        }
        return text.toString();
    }

    /** "Twenty bytes come behind the tape .. : how many it has". */
    private static void twentyBytesCome() {
        TongueSwap x = new TongueSwap();
        due("empty", x.count(4), 0);
        for (int i = 1; i <= 4; i++) {
            due("fed " + i, x.feed(0, 0, 0, 0, 0), 20 * i);
            due("bytes", x.count(4), 20 * i);
        }
    }

    /** "NONE, and none come, if it would have more than 80." */
    private static void noMoreThanEighty() {
        check.refused("a fifth feed", NONE, Scene::fullTown, x -> x.feed(-1, -1, -1, -1, -1));
        TongueSwap x = Scene.fullTown();
        for (int i = 0; i < 3; i++) {
            due("full", x.feed(0, 0, 0, 0, 0), NONE);
        }
        due("still 80", x.count(4), 80);
        due("the bytes are as they were", x.correct(40, 40), 120);
        due("all become others", x.marks(1), 40);
    }

    /** "(it is empty then)": all of it, and there is room for 80 again. */
    private static void theTapeIsEmptyThenAndFillsAgain() {
        TongueSwap x = Scene.fullTown();
        for (int round = 0; round < 5; round++) {
            x.correct(round, 1);
            due("empty", x.count(4), 0);
            check.illegal("nothing is left", () -> x.correct(0, 1));
            for (int i = 1; i <= 4; i++) {
                due("fed again", x.feed(round, round, round, round, round), 20 * i);
            }
            due("full again", x.feed(0, 0, 0, 0, 0), NONE);
        }
        due("the new bytes alone", x.correct(40, 40), 0);
    }

    /** "of each number the highest first", a to e in order. */
    private static void theHighestByteFirst() {
        TongueSwap x = new TongueSwap();
        x.feed(0x01020304, 0x05060708, 0x090A0102, 0x03040506, 0x0708090A);
        due("1 to 10 twice", x.correct(10, 10), 0);
        x.feed(0x81828384, 0x85868788, 0x898A8182, 0x83848586, 0x8788898A);
        due("129 to 138 twice", x.correct(10, 10), 0);
        x.feed(1, 0x00000001, 1, 1, 1);
        due("the lowest is the last", x.correct(4, 4), 0);
        x.feed(0x01000000, 1, 0, 0, 0);
        due("1 0 0 0 to 0 0 0 1", x.correct(4, 4), 4);
        due("1 goes, 1 comes", Scene.marks(x), "20003");
        x.feed(Integer.MIN_VALUE, 0x80000000, Integer.MAX_VALUE, 0x7FFFFFFF, 0);
        due("least and greatest", x.correct(4, 4), 0);
        x.feed(Integer.MAX_VALUE, 0x7FFFFFFF, 0, 0, 0);
        due("greatest", x.correct(4, 4), 0);
    }

    /** Bytes are 0 to 255, and no two of them alike. */
    private static void allBytesAreUnlike() {
        for (int high = 0; high < 256; high++) {
            TongueSwap x = new TongueSwap();
            int other = high ^ 128;
            x.feed(high << 24 | other << 16, 0, 0, 0, 0);
            due(high + " to " + other, x.correct(1, 1), 3);
            x.feed(high << 24 | high << 16, 0, 0, 0, 0);
            due(high + " to itself", x.correct(1, 1), 0);
        }
        dueMarks(unlike(0, 40), unlike(128, 40), "1".repeat(40) + " costs 120");
        dueMarks(unlike(216, 40), unlike(216, 40), "0".repeat(40) + " costs 0");
    }

    /** n and m 0: no MARKS, and the tape is empty then. */
    private static void nothingToNothing() {
        TongueSwap x = new TongueSwap();
        due("of an empty tape", x.correct(0, 0), 0);
        due("no MARKS", x.mark(NONE), 0);
        check.noSuch("no MARK 0", () -> x.mark(0));
        TongueSwap y = Scene.town();
        due("of twenty bytes", y.correct(0, 0), 0);
        due("no MARKS", y.mark(NONE), 0);
        check.noSuch("no MARK 0", () -> y.mark(0));
        due("none of any kind", Scene.kinds(y), "0 0 0 0 0");
        due("empty then", y.count(4), 0);
    }

    /** "n, m are not 0 to 40": 0 and 40 are fine. */
    private static void zeroToFortyBytes() {
        due("40 and 40", Scene.fullTown().correct(40, 40), 120);
        due("40 and 0", Scene.fullTown().correct(40, 0), 80);
        due("0 and 40", Scene.fullTown().correct(0, 40), 80);
        check.illegal("41 and 0", () -> Scene.fullTown().correct(41, 0));
        check.illegal("0 and 41", () -> Scene.fullTown().correct(0, 41));
        check.illegal("41 and 39", () -> Scene.fullTown().correct(41, 39));
        check.illegal("39 and 41", () -> Scene.fullTown().correct(39, 41));
        check.illegal("-1 and 40", () -> Scene.fullTown().correct(-1, 40));
        check.illegal("40 and -1", () -> Scene.fullTown().correct(40, -1));
    }

    /** "the tape has not so many (nothing changes)": all of them are fine, one more is not. */
    private static void asManyAsTheTapeHas() {
        for (int feeds = 0; feeds <= 3; feeds++) {
            int bytes = 20 * feeds;
            for (int n = Math.max(0, bytes - 39); n <= Math.min(40, bytes); n++) {
                TongueSwap x = new TongueSwap();
                for (int i = 0; i < feeds; i++) {
                    x.feed(0x61616161, 0x61616161, 0x61616161, 0x61616161, 0x61616161);
                }
                int said = n;
                int meant = bytes - n;
                check.illegal("one more of " + bytes, () -> x.correct(said, meant + 1));
                due("still there", x.count(4), bytes);
                due("all of " + bytes, x.correct(said, meant), 2 * Math.abs(said - meant));
            }
        }
    }

    /** "the tape's first n bytes to the m behind them": the rest is no matter. */
    private static void theFirstBytesAndThoseBehind() {
        TongueSwap x = new TongueSwap();
        Scene.feedText(x, "catcutdogdogdogdogdog");
        due("cat to cut", x.correct(3, 3), 3);
        due("MARKS", Scene.marks(x), "010");
        Scene.feedText(x, "catcutdogdogdogdogdog");
        due("cat to nothing", x.correct(3, 0), 6);
        due("MARKS", Scene.marks(x), "222");
        Scene.feedText(x, "catcutdogdogdogdogdog");
        due("nothing to cat", x.correct(0, 3), 6);
        due("MARKS", Scene.marks(x), "333");
        Scene.feedText(x, "abcdefghijklmnopqrstabcdefghijklmnopqrst");
        due("across two feeds", x.correct(20, 20), 0);
        Scene.feedText(x, "abcdefghijklmnopqrstabcdefghijklmnopqrst");
        due("from within one", x.correct(19, 21), 4);
        due("t comes at both ends", Scene.marks(x), "3" + "0".repeat(19) + "3");
    }

    /** "COST: 0, 3, 2, 2, 2." */
    private static void costsOfEachKind() {
        dueMarks("a", "a", "0 costs 0");
        dueMarks("a", "b", "1 costs 3");
        dueMarks("a", "", "2 costs 2");
        dueMarks("", "a", "3 costs 2");
        dueMarks("ab", "ba", "4 costs 2");
    }

    /** "4 two side by side (unlike ones) change places": alike ones stay. */
    private static void twoUnlikeOnesChangePlaces() {
        dueMarks("aa", "aa", "00 costs 0");
        dueMarks("aab", "aba", "04 costs 2");
        dueMarks("ab", "bab", "300 costs 2");
        dueMarks("axb", "bxa", "101 costs 6");
        dueMarks("ab", "bxa", "2033 costs 6");
        dueMarks("ab", "bc", "203 costs 4");
        dueMarks("abc", "bca", "2003 costs 4");
    }

    /** A change of places at the front, at the end, and where only one byte is left. */
    private static void changesOfPlacesAtTheEnds() {
        dueMarks("abcd", "bacd", "400 costs 2");
        dueMarks("abcd", "abdc", "004 costs 2");
        dueMarks("abcd", "badc", "44 costs 4");
        dueMarks("ab", "b", "20 costs 2");
        dueMarks("b", "ab", "30 costs 2");
        dueMarks("ab", "bac", "43 costs 4");
        dueMarks("abc", "ba", "42 costs 4");
        dueMarks(unlike(10, 40), swapped(unlike(10, 40)), "4".repeat(20) + " costs 40");
    }

    private static String swapped(String text) {
        StringBuilder other = new StringBuilder();
        for (int i = 0; i + 1 < text.length(); i += 2) {
            other.append(text.charAt(i + 1)).append(text.charAt(i));
        }
        return other.toString();
    }

    /** "The MARKS are a row of least COST". */
    private static void theLeastCost() {
        dueMarks("abc", "xyz", "111 costs 9");
        dueMarks("ab", "ca", "302 costs 4");
        dueMarks("ab", "bc", "203 costs 4");
        dueMarks("abcdef", "bcdefa", "2000003 costs 4");
        dueMarks("xabcdef", "abcdefy", "20000003 costs 4");
    }

    /** "of like ones the first as a row of numbers". */
    private static void theFirstRowOfMarks() {
        dueMarks("a", "bc", "13 costs 5");
        dueMarks("ab", "c", "12 costs 5");
        dueMarks("aab", "ab", "020 costs 2");
        dueMarks("ab", "aab", "030 costs 2");
        dueMarks("aaa", "a", "022 costs 4");
        dueMarks("a", "aaa", "033 costs 4");
        // 44, 20003 and 30002 cost 4 each.
        dueMarks("abab", "baba", "20003 costs 4");
    }

    /** "(rows of bytes, at most 40 each)": rows of more than forty MARKS. */
    private static void theLongestRows() {
        dueMarks("", unlike(0, 40), "3".repeat(40) + " costs 80");
        dueMarks(unlike(0, 40), "", "2".repeat(40) + " costs 80");
        StringBuilder said = new StringBuilder();
        StringBuilder meant = new StringBuilder();
        for (int i = 0; i < 13; i++) {
            char p = (char) (4 * i);
            said.append(p).append((char) (p + 1)).append((char) (p + 2));
            meant.append((char) (p + 3)).append(p).append((char) (p + 2));
        }
        said.append((char) 255);
        meant.append((char) 255);
        due("thirteen times one comes, one stays, one goes, one stays", marks(said.toString(), meant.toString()),
            "3020".repeat(13) + "0 costs 52");
    }

    /** mark: "i NONE: how many"; "there is none". */
    private static void howManyMarks() {
        TongueSwap x = new TongueSwap();
        due("before one", x.mark(NONE), 0);
        Scene.corrected(x, "abxy", "bay");
        due("three", x.mark(NONE), 3);
        due("the first", x.mark(0), 4);
        due("the last", x.mark(2), 0);
        check.noSuch("behind the last", () -> x.mark(3));
        check.noSuch("-2", () -> x.mark(-2));
        Scene.corrected(x, "a", "a");
        due("one", x.mark(NONE), 1);
        check.noSuch("none of an earlier one", () -> x.mark(1));
    }

    /** "The i-th MARK of the latest CORRECTION": feeds and refused ones leave it. */
    private static void theLatestCorrection() {
        TongueSwap x = new TongueSwap();
        Scene.corrected(x, "teh", "the");
        Scene.feedText(x, "something else comes");
        due("after a feed", Scene.marks(x), "04");
        check.illegal("refused", () -> x.correct(20, 1));
        due("after a refused one", Scene.marks(x), "04");
        due("after a refused one", Scene.kinds(x), "1 0 0 0 1");
        x.correct(1, 1);
        due("after another", Scene.marks(x), "1");
        due("after another", Scene.kinds(x), "0 1 0 0 0");
    }

    /** "How many MARKS of a kind it had": 0 to 4. */
    private static void marksOfEachKind() {
        TongueSwap x = new TongueSwap();
        due("before one", Scene.kinds(x), "0 0 0 0 0");
        Scene.corrected(x, "abxcdyk", "bacdzz");
        due("MARKS", Scene.marks(x), "420011");
        due("of each kind", Scene.kinds(x), "2 2 1 0 1");
        check.noSuch("kind 5", () -> x.marks(5));
        check.noSuch("kind -1", () -> x.marks(-1));
        Scene.corrected(x, "", "abc");
        due("not those of an earlier one", Scene.kinds(x), "0 0 0 3 0");
    }
}
