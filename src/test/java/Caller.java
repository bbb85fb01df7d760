import java.util.Random;

/** Calls of the class that are told by their name. */
final class Caller {
    static final String[] NAMES = {
        "learner", "hours", "claim", "want", "unwant", "bar", "test", "level", "gift", "meet", "ring", "week", "rings",
        "ringOf", "missed", "waited", "days", "word", "asked", "wordOf", "next", "feed", "correct", "mark", "marks", "count"};
    private static final int[] PARAMETERS = {
        1, 2, 3, 2, 1, 3, 4, 3, 2, 2, 4, 0, 0, 2, 1, 1, 1, 1, 3, 3, 1, 5, 2, 1, 1, 1};
    private static final int[] EDGES = {Integer.MIN_VALUE, Integer.MAX_VALUE, -1, -2, 1000, 1001, 40, 41};

    private Caller() {
    }

    /** As many numbers as the call takes, right ones and wrong ones. */
    static int[] anyArguments(String name, Random random) {
        int[] p = new int[PARAMETERS[java.util.Arrays.asList(NAMES).indexOf(name)]];
        for (int i = 0; i < p.length; i++) {
            p[i] = anyNumber(random);
        }
        return p;
    }

    private static int anyNumber(Random random) {
        switch (random.nextInt(12)) {
            case 0:
                return random.nextInt();
            case 1:
                return random.nextInt(50) - 5;
            case 2:
                return EDGES[random.nextInt(EDGES.length)];
            default:
                return random.nextInt(14) - 1;
        }
    }

    /** What the call answers; a boolean parameter is true for every number but 0. */
    static Object call(TongueSwap x, String name, int... p) {
        switch (name) {
            case "learner": return x.learner(p[0]);
            case "hours": return x.hours(p[0], p[1]);
            case "claim": return x.claim(p[0], p[1], p[2]);
            case "want": return x.want(p[0], p[1]);
            case "unwant": return x.unwant(p[0]);
            case "bar": return x.bar(p[0], p[1], p[2] != 0);
            case "test": return x.test(p[0], p[1], p[2], p[3] != 0);
            case "level": return x.level(p[0], p[1], p[2]);
            case "gift": return x.gift(p[0], p[1]);
            case "meet": return x.meet(p[0], p[1]);
            case "ring": return x.ring(p[0], p[1], p[2], p[3]);
            case "week": return x.week();
            case "rings": return x.rings();
            case "ringOf": return x.ringOf(p[0], p[1]);
            case "missed": return x.missed(p[0]);
            case "waited": return x.waited(p[0]);
            case "days": return x.days(p[0]);
            case "word": return x.word(p[0]);
            case "asked": return x.asked(p[0], p[1], p[2] != 0);
            case "wordOf": return x.wordOf(p[0], p[1], p[2]);
            case "next": return x.next(p[0]);
            case "feed": return x.feed(p[0], p[1], p[2], p[3], p[4]);
            case "correct": return x.correct(p[0], p[1]);
            case "mark": return x.mark(p[0]);
            case "marks": return x.marks(p[0]);
            case "count": return x.count(p[0]);
            default: throw new IllegalStateException(name);
        }
    }
}
