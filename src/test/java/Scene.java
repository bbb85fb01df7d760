/** Objects to begin with, and readings of them, that the tests share. */
final class Scene {
    private static final int NONE = TongueSwap.NONE;

    private Scene() {
    }

    /** As many learners as there are rows of hours, nobody having or wanting anything. */
    static TongueSwap learners(int... hours) {
        TongueSwap x = new TongueSwap();
        for (int h : hours) {
            x.learner(h);
        }
        return x;
    }

    /** Learner i has tongue i and wants nothing (at most 8 learners, all of whom can in all hours). */
    static TongueSwap masters(int count) {
        TongueSwap x = new TongueSwap();
        for (int i = 0; i < count; i++) {
            x.learner(-1);
            x.claim(i, i, 8);
        }
        return x;
    }

    /**
     * At most 8 learners who can in all hours, each of whom wants the tongue of the own number; an arc "ab" among the
     * arcs is a gift from a to b, an edge "a-b" one each way. There are no other gifts.
     */
    static TongueSwap gifts(int count, String arcs) {
        TongueSwap x = new TongueSwap();
        for (int i = 0; i < count; i++) {
            x.learner(-1);
            x.want(i, i);
        }
        for (String arc : arcs.split(" ")) {
            int from = arc.charAt(0) - '0';
            int to = arc.charAt(arc.length() - 1) - '0';
            x.claim(from, to, 8);
            if (arc.length() == 3) {
                x.claim(to, from, 8);
            }
        }
        return x;
    }

    /** Learners who can in all hours and all have and want the same: everyone has a gift for everyone. */
    static TongueSwap friends(int count) {
        TongueSwap x = new TongueSwap();
        for (int i = 0; i < count; i++) {
            addFriend(x);
        }
        return x;
    }

    static void addFriend(TongueSwap x) {
        int i = x.learner(-1);
        x.claim(i, 0, 8);
        x.want(i, 0);
    }

    /** Three learners with something in every part of the state: the ground for calls that are refused. */
    static TongueSwap town() {
        TongueSwap x = learners(0b0111, 0b0110, 0b1101);
        x.claim(0, 0, 9);
        x.claim(1, 1, 8);
        x.claim(2, 2, 10);
        x.want(0, 1);
        x.want(0, 2);
        x.want(1, 0);
        x.want(2, 0);
        x.test(2, 5, 6, true);
        x.test(2, 5, 3, false);
        x.bar(1, 2, true);
        x.week();
        x.missed(1);
        for (int i = 0; i < 3; i++) {
            x.word(0);
        }
        x.asked(0, 1, true);
        x.asked(0, 2, false);
        x.days(1);
        corrected(x, "hfello wrodlz", "hello, world");
        feedText(x, "what is on the tape.");
        return x;
    }

    /** Fourteen learners, the first with 40 words, and a tape of 80 bytes: nothing more has room. */
    static TongueSwap fullTown() {
        TongueSwap x = friends(14);
        for (int i = 0; i < 40; i++) {
            x.word(0);
        }
        feedText(x, "a".repeat(40) + "b".repeat(40));
        return x;
    }

    static String rings(TongueSwap x) {
        StringBuilder text = new StringBuilder();
        int count = x.rings();
        for (int k = 0; k < count; k++) {
            text.append('(').append(x.ringOf(k, 0)).append(' ').append(x.ringOf(k, 1));
            if (x.ringOf(k, 2) != NONE) {
                text.append(' ').append(x.ringOf(k, 2));
            }
            text.append(')');
        }
        return text.toString();
    }

    static String waits(TongueSwap x) {
        StringBuilder text = new StringBuilder();
        int count = x.count(0);
        for (int i = 0; i < count; i++) {
            text.append(i == 0 ? "" : " ").append(x.waited(i));
        }
        return text.toString();
    }

    /** The hours of a ring of three as they are asked one by one. */
    static String hours(TongueSwap x, int a, int b, int c) {
        return x.ring(a, b, c, 0) + " " + x.ring(a, b, c, 1) + " " + x.ring(a, b, c, 2);
    }

    static String marks(TongueSwap x) {
        StringBuilder text = new StringBuilder();
        int count = x.mark(NONE);
        for (int i = 0; i < count; i++) {
            text.append(x.mark(i));
        }
        return text.toString();
    }

    static String kinds(TongueSwap x) {
        StringBuilder text = new StringBuilder();
        for (int kind = 0; kind < 5; kind++) {
            text.append(kind == 0 ? "" : " ").append(x.marks(kind));
        }
        return text.toString();
    }

    /** Feeds a text, padded with blanks to whole twenties. */
    static void feedText(TongueSwap x, String text) {
        StringBuilder padded = new StringBuilder(text);
        while (padded.length() % 20 != 0) {
            padded.append(' ');
        }
        for (int at = 0; at < padded.length(); at += 20) {
            x.feed(four(padded, at), four(padded, at + 4), four(padded, at + 8), four(padded, at + 12), four(padded, at + 16));
        }
    }

    private static int four(CharSequence text, int at) {
        return text.charAt(at) << 24 | text.charAt(at + 1) << 16 | text.charAt(at + 2) << 8 | text.charAt(at + 3);
    }

    static int corrected(TongueSwap x, String said, String meant) {
        feedText(x, said + meant);
        return x.correct(said.length(), meant.length());
    }
}
